/-! ===== the reference: LEFT, RIGHT, INDEX, MATCH, COUNTIF ===== -/
section Wk2
variable {s : Int} {E : Int → Sh} {V : Int → Int → Int → Lit} {q0 : Int} {ps : List Prt}
theorem drop_D {l : List Int} {k j : Nat} : (l.drop k).getD j 0 = l.getD (k + j) 0 := by
  rw [List.getD_eq_getElem?_getD, List.getElem?_drop, List.getD_eq_getElem?_getD]
theorem take_D {l : List Int} {k j : Nat} (h : j < k) : (l.take k).getD j 0 = l.getD j 0 := by
  rw [List.getD_eq_getElem?_getD, List.getElem?_take, if_pos h, List.getD_eq_getElem?_getD]
theorem e_cut {RA RB RC RD RE RF RG RH : Int → Int → Int → Mu → (Mu → Prop) → Prop} {u : Mu} {d : Int} {t : List Int} {fr m : Nat} {P : Mu → Prop} (d0 : 0 ≤ d) (d1 : d < 200) (ht : t.length ≤ 24) (hm : fr + m ≤ t.length) (H : HdM u d (2, 0, t)) (h : ∀ v, FrS (fun e => e = d) u v → HdM v d (2, 0, (t.drop fr).take m) → P v) : F_X12_workEnd_161 RA RB RC RD RE RF RG RH d (m : Int) (fr : Int) 0 u P := by
  obtain ⟨h1, h2, -⟩ := H
  obtain ⟨h2, h3⟩ := h2 rfl
  unfold F_X12_workEnd_161
  refine lp_I (fun q => (0 ≤ q.1 ∧ q.1 ≤ (m : Int)) ∧ FrS (fun e => e = d) u q.2 ∧ mI q.2 66 d = 2 ∧ ∀ j : Nat, j < t.length → mI q.2 69 (24 * d + j) = if (j : Int) < q.1 then t.getD (fr + j) 0 else t.getD j 0) (fun q => ((m : Int) - q.1).toNat) ?_ _ ⟨⟨by show (0 : Int) ≤ 0; omega, by show (0 : Int) ≤ _; omega⟩, FrS_rf, h1, fun j hj => by rw [if_neg (by show ¬ (j : Int) < 0; omega)]; exact h3 j hj⟩
  rintro G ⟨k, w⟩ ⟨⟨k0, k1⟩, f, e1, e2⟩ ih
  simp only at k0 k1 f e1 e2
  show L_X12_workEnd_161 RA RB RC RD RE RF RG RH d m fr k w _
  unfold L_X12_workEnd_161
  by_cases c : (m : Int) ≤ k
  · rw [if_pos c]
    refine ⟨d0, d1, fun y hy => ?_⟩
    subst hy
    refine h _ (FrS_68 f rfl) ⟨?_, fun _ => ⟨?_, fun j hj => ?_⟩, fun z => ?_⟩
    · rw [mI_uI, if_neg (by omega)]; exact e1
    · rw [mI_uI, if_pos ⟨rfl, rfl⟩]; show (m : Int) = (((t.drop fr).take m).length : Int); rw [List.length_take, List.length_drop]; omega
    · have hj : j < ((t.drop fr).take m).length := hj
      rw [List.length_take, List.length_drop] at hj
      rw [mI_uI, if_neg (by omega), e2 j (by omega), if_pos (by omega)]
      show _ = ((t.drop fr).take m).getD j 0
      rw [take_D (by omega), drop_D]
    · rcases z with z | z | z <;> cases z
  · rw [if_neg c, w32e (x := 24 * d) (by omega) (by omega), w32e (x := 24 * d + (fr : Int)) (by omega) (by omega), w32e (x := 24 * d + (fr : Int) + k) (by omega) (by omega), w32e (x := 24 * d + k) (by omega) (by omega), w32e (x := k + 1) (by omega) (by omega)]
    refine ⟨by omega, by omega, by omega, by omega, fun y hy => ?_⟩
    subst hy
    refine ih _ ⟨⟨by show 0 ≤ k + 1; omega, by show k + 1 ≤ _; omega⟩, FrS_69 f rfl (by omega) (by omega), ?_, fun j hj => ?_⟩ (by show ((m : Int) - (k + 1)).toNat < ((m : Int) - k).toNat; omega)
    · show mI (uI w 69 _ _) 66 d = 2; rw [mI_uI, if_neg (by omega)]; exact e1
    · show mI (uI w 69 (24 * d + k) (mI w 69 (24 * d + (fr : Int) + k))) 69 (24 * d + j) = if (j : Int) < k + 1 then _ else _
      by_cases cj : (j : Int) = k
      · rw [mI_uI, if_pos ⟨rfl, by omega⟩, if_pos (by omega)]
        have q := e2 (fr + j) (by omega)
        rw [show 24 * d + (fr : Int) + k = 24 * d + ((fr + j : Nat) : Int) by omega, q]
        by_cases cf : ((fr + j : Nat) : Int) < k
        · omega
        · rw [if_neg cf]
      · rw [mI_uI, if_neg (by omega), e2 j hj]
        by_cases ck : (j : Int) < k
        · rw [if_pos ck, if_pos (by omega)]
        · rw [if_neg ck, if_neg (by omega)]
theorem e_end {u : Mu} {i n N : Nat} {d : Int} {P : Mu → Prop} (HI : ∀ j, j < i → WkR s E V q0 ps j N) (hN : N ≤ n) (h : EvM u s E V q0 ps) (hi : i < ps.length) (c : 31 ≤ (ps.getD i pd0).1 ∧ (ps.getD i pd0).1 ≤ 32) (d0 : 0 ≤ d) (db : d ≤ bgI ps i) (p : ∀ v, FrT (fun x => d ≤ x) u v → HdM v d (EvA E V ps i) → P v) : F_X12_workEnd (n + 1) (q0 + i) s d u P := by
  have W := h.2.2.2.1
  have wa := WfP_a (W.2 i hi)
  have k0 : ((0 : Nat) : Int) < (ps.getD i pd0).2.1 := by omega
  have k1 : ((1 : Nat) : Int) < (ps.getD i pd0).2.1 := by omega
  have d6 := d_60 h hi
  have c0 := chI W hi k0
  have c1 := chI W hi k1
  unfold chO at c0 c1
  have ev : EvA E V ps i = endV (ps.getD i pd0).1 (EvA E V ps (agI ps i 0)) (EvA E V ps (agI ps i 1)) := by
    show evV _ _ _ _ _ = _
    rw [evV_s W hi, st_32 c]; rfl
  rw [ev] at p
  unfold endV at p
  have o0 := EvM_V h (i := agI ps i 0) (by have := (agI_w W hi k0).2; omega)
  have o1 := EvM_V h (i := agI ps i 1) (by have := (agI_w W hi k1).2; omega)
  generalize hl : EvA E V ps (agI ps i 0) = l at *
  generalize hm : EvA E V ps (agI ps i 1) = m at *
  rw [F_X12_workEnd_s]
  unfold B_X12_workEnd
  refine e_under (k := 0) h hi k0 ?_
  refine e_arg HI hN h hi k0 (by omega) (by omega) d0 db (Int.le_refl d) (by omega) (fun v f hv H => ?_)
  rw [hl] at H
  refine ⟨d0, by omega, ?_⟩
  rw [H.1]
  by_cases c4 : l.1 = 4
  · rw [if_pos c4]; rw [if_pos c4] at p; exact p v f H
  rw [if_neg c4]; rw [if_neg c4] at p
  refine e_under (k := 1) hv hi k1 ?_
  rw [w32e (x := d + 1) (by omega) (by omega)]
  refine e_arg HI hN hv hi k1 (by omega) (by omega) d0 db (by omega) (by omega) (fun w g hw K => ?_)
  rw [hm] at K
  have fg : FrT (fun x => d ≤ x) u w := FrS_tr f (FrS_mo g (fun e he => by have he : d + 1 ≤ e := he; show d ≤ e; omega))
  have H2 := HdM_f g (by show ¬ d + 1 ≤ d; omega) (fun _ => (VOk_b o0).1) H
  have u1 : ∀ y, FrS (fun x => x = d) w y → FrT (fun x => d ≤ x) u y := fun y q => FrS_tr fg (FrS_mo (FrT_of q) (fun e he => by rw [he]; exact Int.le_refl d))
  refine ⟨by omega, by omega, ?_⟩
  rw [K.1]
  by_cases m4 : m.1 = 4
  · rw [if_pos m4]; rw [if_pos m4] at p
    exact e_bring (by omega) (by omega) d0 (by omega) (VOk_b o1).1 K (fun y q hy => p y (u1 y q) hy)
  rw [if_neg m4]; rw [if_neg m4] at p
  have tl := VOk_txt o0 c4
  unfold kptV at p
  refine e_wantsX d0 (by omega) o0 H2 (fun y q hy => ?_)
  have K2 := HdM_f q (by show ¬ d + 1 = d; omega) (fun _ => (VOk_b o1).1) K
  have hy' : HdM y d (2, 0, (txtL l).2.2) := by
    have e : txtL l = (2, 0, (txtL l).2.2) := by
      have := (VOk_b tl.2.1).2.2.2 tl.1
      rw [← this, ← tl.1]
    rw [e] at hy; exact hy
  unfold F_X12_workEnd_86
  generalize (txtL l).2.2 = t at *
  refine e_wantsN (by omega) (by omega) o1 K2 (fun cm y2 q2 hy2 => ?_) (fun cm y2 q2 hy2 => ?_)
  · have u2 : ∀ y3, FrS (fun x => x = d) y2 y3 → FrT (fun x => d ≤ x) u y3 := fun y3 q3 => FrS_tr (FrS_tr (u1 y q) (FrS_mo (FrT_of q2) (fun e he => by rw [he]; show d ≤ d + 1; omega))) (FrS_mo (FrT_of q3) (fun e he => by rw [he]; exact Int.le_refl d))
    rw [if_neg (by decide)]
    refine ⟨by omega, by omega, ?_⟩
    have x1 := hy2.2.2 (Or.inl rfl)
    have x1 : mG y2 67 (d + 1) = m.2.1 := x1
    have H4 := HdM_f q2 (by show ¬ d = d + 1; omega) (fun _ => tl.2.2.1) hy'
    have e68 := (H4.2.1 rfl).1
    have e68 : mI y2 68 d = (t.length : Int) := e68
    rw [x1]
    have ye := EvM_f (FrT_of q2).1 (EvM_f (FrT_of q).1 hw)
    obtain ⟨g1, g2, g3, g4⟩ := E_op ye hi
    have km := (kM_a (W.2 i hi)).2.2.1 (by omega)
    by_cases cn : 0 ≤ m.2.1
    · rw [if_pos cn]
      rw [if_pos ⟨cm, cn⟩] at p
      refine ⟨d0, by omega, ?_⟩
      rw [e68]
      have xm := VOk_x o1
      have fin : ∀ a : Int, a = ((min m.2.1.toNat t.length : Nat) : Int) → F_X12_workEnd_130 (F_X12_work n) (F_X12_workCall n) (F_X12_workEnd n) (F_X12_workIf n) (F_X12_workLook n) (F_X12_workMany n) (F_X12_workOne n) (F_X12_workTwo n) (q0 + i) d a y2 P := by
        intro a ha
        unfold F_X12_workEnd_130 F_X12_workEnd_156
        refine ⟨g3, g4, ?_⟩
        rw [g1.1, km]
        by_cases o31 : (ps.getD i pd0).1 = 31
        · rw [if_pos (by omega)]
          rw [if_pos o31] at p
          rw [ha]
          refine e_cut (fr := 0) d0 (by omega) tl.2.2.1 (by omega) H4 (fun y3 q3 hy3 => p y3 (u2 y3 q3) ?_)
          rw [List.drop_zero] at hy3; exact hy3
        · rw [if_neg (by omega)]
          rw [if_neg o31] at p
          refine ⟨d0, by omega, ?_⟩
          rw [e68, ha, w32e (by omega) (by omega), show (t.length : Int) - ((min m.2.1.toNat t.length : Nat) : Int) = ((t.length - min m.2.1.toNat t.length : Nat) : Int) by omega]
          refine e_cut d0 (by omega) tl.2.2.1 (by omega) H4 (fun y3 q3 hy3 => p y3 (u2 y3 q3) ?_)
          rw [List.take_of_length_le (by rw [List.length_drop]; omega)] at hy3; exact hy3
      by_cases cl : m.2.1 ≤ (t.length : Int)
      · rw [if_pos cl, w32e (by omega) (by omega)]; exact fin _ (by omega)
      · rw [if_neg cl]; exact fin _ (by omega)
    · rw [if_neg cn]
      rw [if_neg (fun z => cn z.2)] at p
      exact e_error d0 (by omega) (fun y3 q3 hy3 => p y3 (u2 y3 q3) hy3)
  · rw [if_pos rfl]
    rw [if_neg (fun z => cm z.1)] at p
    exact e_error d0 (by omega) (fun y3 q3 hy3 => p y3 (FrS_tr (FrS_tr (u1 y q) (FrS_mo (FrT_of q2) (fun e he => by rw [he]; show d ≤ d + 1; omega))) (FrS_mo (FrT_of q3) (fun e he => by rw [he]; exact Int.le_refl d))) hy3)
theorem cntV_t {w : Lit} {L : List Lit} {k : Nat} (h : k < L.length) : cntV w (L.take (k + 1)) = (if lkV w (L.getD k (erL 1)) = true then cntV w (L.take k) + 1 else cntV w (L.take k)) := fold_tk _ h (erL 1) 0
theorem matV_t {w : Lit} {L : List Lit} {k : Nat} (h : k < L.length) : matV w (L.take (k + 1)) = ((matV w (L.take k)).1 + 1, if (matV w (L.take k)).2 = 0 ∧ lkV w (L.getD k (erL 1)) = true then (matV w (L.take k)).1 + 1 else (matV w (L.take k)).2) := fold_tk _ h (erL 1) (0, 0)
theorem matV_1 (w : Lit) (L : List Lit) : (matV w L).1 = L.length ∧ 0 ≤ (matV w L).2 ∧ (matV w L).2 ≤ L.length := by
  have := matV_b w L (0, 0) (by decide) (by decide) (by decide)
  unfold matV
  simp only at this
  omega
theorem cntV_1 (w : Lit) (L : List Lit) : 0 ≤ cntV w L ∧ cntV w L ≤ L.length := by
  have := cntV_b w L 0 (by decide)
  unfold cntV
  omega
theorem e_look {u : Mu} {i n N ka kv : Nat} {d : Int} {P : Mu → Prop} (HI : ∀ j, j < i → WkR s E V q0 ps j N) (hN : N ≤ n) (h : EvM u s E V q0 ps) (hi : i < ps.length) (c : 33 ≤ (ps.getD i pd0).1) (hk : ((ps.getD i pd0).1 = 34 ∧ ka = 1 ∧ kv = 0) ∨ ((ps.getD i pd0).1 ≠ 34 ∧ ka = 0 ∧ kv = 1)) (d0 : 0 ≤ d) (db : d ≤ bgI ps i) (p : ∀ v, FrT (fun x => d ≤ x) u v → HdM v d (EvA E V ps i) → P v) : F_X12_workLook (n + 1) (q0 + i) s d u P := by
  have W := h.2.2.2.1
  have wa := WfP_a (W.2 i hi)
  have k0 : ((kv : Nat) : Int) < (ps.getD i pd0).2.1 := by omega
  have k1 : ((ka : Nat) : Int) < (ps.getD i pd0).2.1 := by omega
  have d6 := d_60 h hi
  have c0 := chI W hi k0
  unfold chO at c0
  have ev : EvA E V ps i = lokV (ps.getD i pd0).1 (avE E V ps (agI ps i ka)) (EvA E V ps (agI ps i kv)) := by
    show evV _ _ _ _ _ = _
    rcases hk with ⟨e1, e2, e3⟩ | ⟨e1, e2, e3⟩
    · rw [evV_s W hi, st_34 e1, e2, e3]; rfl
    · rw [evV_s W hi, st_35 (by omega), e2, e3]; rfl
  rw [ev] at p
  unfold lokV at p
  have aj := agI_w W hi k1
  have o0 := EvM_V h (i := agI ps i kv) (by have := (agI_w W hi k0).2; omega)
  generalize hl : EvA E V ps (agI ps i kv) = l at *
  obtain ⟨b1, b2, b3, b4⟩ := E_op h hi
  have km := (kM_a (W.2 i hi)).2.2.1 (by omega)
  have k42 : F_X12_workLook_42 (F_X12_work n) (F_X12_workCall n) (F_X12_workEnd n) (F_X12_workIf n) (F_X12_workLook n) (F_X12_workMany n) (F_X12_workOne n) (F_X12_workTwo n) s d ((ps.getD i pd0).1 + 12) (q0 + (agI ps i ka : Nat)) (q0 + i) (kv : Int) u P := by
    unfold F_X12_workLook_42
    refine e_under h hi k0 ?_
    refine e_arg HI hN h hi k0 (by omega) (by omega) d0 db (Int.le_refl d) (by omega) (fun v f hv H => ?_)
    rw [hl] at H
    refine ⟨d0, by omega, ?_⟩
    rw [H.1]
    by_cases c4 : l.1 = 4
    · rw [if_pos c4]; rw [if_pos c4] at p; exact p v f H
    rw [if_neg c4]; rw [if_neg c4] at p
    have hup : ∀ D : Int → Prop, (∀ e, D e → d ≤ e) → ∀ y y2, FrT (fun _ => False) v y → FrT D y y2 → FrT (fun x => d ≤ x) u y2 := fun D hD y y2 q q2 => FrS_tr f (FrS_tr (FrS_mo q (fun _ z => z.elim)) (FrS_mo q2 hD))
    refine e_area hv (by omega) (fun en y q _ => ?_) (fun t b lf r c17 ea y q _ A => ?_)
    · rw [if_pos rfl]
      rw [en] at p
      exact e_error d0 (by omega) (fun y2 q2 hy2 => p y2 (hup _ (fun e he => by rw [he]; exact Int.le_refl d) y y2 q (FrT_of q2)) hy2)
    · rw [if_neg (by decide)]
      have H2 := HdM_f q (fun z => z) (fun _ => (VOk_b o0).1) H
      obtain ⟨⟨m1, m2, m3, m4⟩, -, m5⟩ := hv.2.2.1.2 (agI ps i ka) (by omega) (Or.inr c17)
      have m5 := m5 c17 t b lf r ea
      have ab := arP_b m2 ea
      have av : avE E V ps (agI ps i ka) = some (arL (V (ps.getD (agI ps i ka) pd0).2.2.2.2.2) (t, b, lf, r)) := by
        unfold avE; rw [if_pos c17, ea]; rfl
      rw [av] at p
      simp only at p
      have ln := arL_len (V (ps.getD (agI ps i ka) pd0).2.2.2.2.2) (t := t) (b := b) (l := lf) (r := r) (by omega) (by omega) (by omega) (by omega)
      have sz := ar_s (t := t) (b := b) (l := lf) (r := r) (by omega) (by omega) (by omega) (by omega)
      have La := fun k => arL_at (V (ps.getD (agI ps i ka) pd0).2.2.2.2.2) (t := t) (b := b) (l := lf) (r := r) (k := k) (d := erL 1)
      generalize arL (V (ps.getD (agI ps i ka) pd0).2.2.2.2.2) (t, b, lf, r) = L at *
      generalize slV s (ps.getD (agI ps i ka) pd0).2.2.2.2.2 = sl at *
      have cell : ∀ (y2 : Mu) (k : Int), FrM wEv v y2 → 0 ≤ k → k < (L.length : Int) → CvM y2 (320 * sl + 10 * (t + k / (r - lf + 1)) + (lf + k % (r - lf + 1))) (L.getD k.toNat (erL 1)) ∧ 0 ≤ 320 * sl + 10 * (t + k / (r - lf + 1)) + (lf + k % (r - lf + 1)) ∧ 320 * sl + 10 * (t + k / (r - lf + 1)) + (lf + k % (r - lf + 1)) < 13120 := by
        intro y2 k q2 h0 h1
        have ak := ar_k (t := t) (b := b) (l := lf) (r := r) (k := k) (by omega) (by omega) h0 (by omega)
        have := m5 _ _ ak.1.1 ak.1.2 ak.2.1 ak.2.2
        rw [La k.toNat (by omega), Int.toNat_of_nonneg h0]
        refine ⟨⟨CeM_f q2 this.1, this.2⟩, ?_, ?_⟩
        all_goals
          generalize k / (r - lf + 1) = X at *
          generalize k % (r - lf + 1) = Y at *
          omega
      by_cases o33 : (ps.getD i pd0).1 = 33
      · rw [if_pos (by omega)]
        rw [if_pos o33] at p
        refine e_wantsN d0 (by omega) o0 H2 (fun cl y2 q2 hy2 => ?_) (fun cl y2 q2 hy2 => ?_)
        · rw [if_neg (by decide)]
          rw [if_pos cl] at p
          refine ⟨d0, by omega, ?_⟩
          rw [show mG y2 67 d = l.2.1 from hy2.2.2 (Or.inl rfl)]
          have upz : ∀ y3, FrS (fun x => x = d) y2 y3 → FrT (fun x => d ≤ x) u y3 := fun y3 q3 => hup _ (fun e he => by rw [he]; exact Int.le_refl d) y y3 q (FrT_of (FrS_tr q2 q3))
          unfold F_X12_workLook_120 F_X12_workLook_143
          by_cases x1 : l.2.1 < 1
          · rw [if_pos x1]
            rw [if_pos (Or.inl x1)] at p
            exact e_error d0 (by omega) (fun y3 q3 hy3 => p y3 (upz y3 q3) hy3)
          rw [if_neg x1]
          have A2 := ArM_f q2 A
          refine e_size A2 (by omega) (by omega) ?_
          rw [← ln]
          by_cases x2 : l.2.1 ≤ (L.length : Int)
          · rw [if_pos x2]
            rw [if_neg (by omega)] at p
            have xl := VOk_x o0
            rw [w32e (x := l.2.1) (by omega) (by omega), w32e (by omega) (by omega)]
            refine e_cell A2 (by omega) (by omega) m3 m4 (by omega) (by omega) ?_
            obtain ⟨z1, z2, z3⟩ := cell y2 (l.2.1 - 1) (FrM_tr q.1 (FrT_of q2).1) (by omega) (by omega)
            exact e_load d0 (by omega) z2 z3 z1.2 z1.1 (fun y3 q3 hy3 => p y3 (upz y3 q3) hy3)
          · rw [if_neg x2]
            rw [if_pos (by omega)] at p
            exact e_error d0 (by omega) (fun y3 q3 hy3 => p y3 (upz y3 q3) hy3)
        · rw [if_pos rfl]
          rw [if_neg cl] at p
          exact p y2 (hup _ (fun e he => by rw [he]; exact Int.le_refl d) y y2 q (FrT_of q2)) hy2
      · rw [if_neg (by omega)]
        rw [if_neg o33] at p
        unfold F_X12_workLook_153
        refine lp_I (fun x => (0 ≤ x.2.2.1 ∧ x.2.2.1 ≤ (L.length : Int)) ∧ FrT (fun e => d + 1 ≤ e) y x.2.2.2 ∧ ArM x.2.2.2 sl t b lf r ∧ HdM x.2.2.2 d l ∧ x.1 = cntV l (L.take x.2.2.1.toNat) ∧ x.2.1 = (matV l (L.take x.2.2.1.toNat)).2) (fun x => ((L.length : Int) - x.2.2.1).toNat) ?_ _ ⟨⟨by show (0 : Int) ≤ 0; omega, by show (0 : Int) ≤ _; omega⟩, FrS_rf, A, H2, rfl, rfl⟩
        rintro G ⟨x6, x7, k, w⟩ ⟨⟨z0, z1⟩, g, A2, H3, e1, e2⟩ ih
        simp only at z0 z1 g A2 H3 e1 e2
        show L_X12_workLook_153 (F_X12_work n) (F_X12_workCall n) (F_X12_workEnd n) (F_X12_workIf n) (F_X12_workLook n) (F_X12_workMany n) (F_X12_workOne n) (F_X12_workTwo n) d ((ps.getD i pd0).1 + 12) x6 x7 k w _
        unfold L_X12_workLook_153
        have upz : ∀ y3, FrS (fun x => x = d) w y3 → FrT (fun x => d ≤ x) u y3 := fun y3 q3 => hup (fun x => d ≤ x) (fun e he => he) y y3 q (FrS_tr (FrS_mo g (fun e he => by have he : d + 1 ≤ e := he; show d ≤ e; omega)) (FrS_mo (FrT_of q3) (fun e he => by rw [he]; exact Int.le_refl d)))
        refine e_size A2 (by omega) (by omega) ?_
        rw [← ln]
        by_cases ck : (L.length : Int) ≤ k
        · rw [if_pos ck]
          have et : L.take k.toNat = L := List.take_of_length_le (by omega)
          rw [et] at e1 e2
          have mb := matV_1 l L
          have cb := cntV_1 l L
          show (if (ps.getD i pd0).1 + 12 = 47 then F_X12_number d x6 w P else if x7 = 0 then F_X12_error d 7 w P else F_X12_number d x7 w P)
          by_cases o35 : (ps.getD i pd0).1 = 35
          · rw [if_pos (by omega)]
            rw [if_pos o35] at p
            refine e_number d0 (by omega) (fun y3 q3 hy3 => p y3 (upz y3 q3) ?_)
            unfold nuL at hy3
            rw [if_neg (by omega), e1] at hy3; exact hy3
          · rw [if_neg (by omega)]
            rw [if_neg o35] at p
            rw [e2]
            by_cases m0 : (matV l L).2 = 0
            · rw [if_pos m0]
              rw [if_pos m0] at p
              exact e_error d0 (by omega) (fun y3 q3 hy3 => p y3 (upz y3 q3) hy3)
            · rw [if_neg m0]
              rw [if_neg m0] at p
              refine e_number d0 (by omega) (fun y3 q3 hy3 => p y3 (upz y3 q3) ?_)
              unfold nuL at hy3
              rw [if_neg (by omega)] at hy3; exact hy3
        · rw [if_neg ck]
          refine e_cell A2 (by omega) (by omega) m3 m4 z0 (by omega) ?_
          obtain ⟨a1, a2, a3⟩ := cell w k (FrM_tr q.1 g.1) z0 (by omega)
          refine e_isLike d0 (by omega) a2 a3 o0 H3 a1 (fun y3 q3 => ?_)
          have hkl : k.toNat < L.length := by omega
          have ct := cntV_t (w := l) hkl
          have mt := matV_t (w := l) hkl
          have m1k := (matV_1 l (L.take k.toNat)).1
          rw [List.length_take, Nat.min_eq_left (by omega)] at m1k
          have cb := cntV_1 l (L.take k.toNat)
          rw [List.length_take, Nat.min_eq_left (by omega)] at cb
          unfold F_X12_workLook_193 F_X12_workLook_195
          have inv : ∀ a1 a2, a1 = cntV l (L.take (k.toNat + 1)) → a2 = (matV l (L.take (k.toNat + 1))).2 → G (a1, a2, w32 (k + 1), y3) := by
            intro a1 a2 ea1 ea2
            rw [w32e (by omega) (by omega)]
            refine ih _ ⟨⟨by show 0 ≤ k + 1; omega, by show k + 1 ≤ _; omega⟩, FrS_tr g (FrS_mo (FrT_of q3) (fun e he => by rcases he with he | he <;> (rw [he]; show d + 1 ≤ _; omega))), ArM_f q3 A2, HdM_f q3 (by show ¬ (d = d + 1 ∨ d = d + 2); omega) (fun _ => (VOk_b o0).1) H3, ?_, ?_⟩ (by show ((L.length : Int) - (k + 1)).toNat < ((L.length : Int) - k).toNat; omega)
            · show a1 = cntV l (L.take (k + 1).toNat); rw [show (k + 1).toNat = k.toNat + 1 by omega]; exact ea1
            · show a2 = (matV l (L.take (k + 1).toNat)).2; rw [show (k + 1).toNat = k.toNat + 1 by omega]; exact ea2
          by_cases lk : lkV l (L.getD k.toNat (erL 1)) = true
          · rw [if_pos lk] at ct
            rw [if_pos lk, if_neg (by decide)]
            by_cases x7z : x7 = 0
            · rw [if_pos x7z]
              refine inv _ _ (by rw [ct, ← e1, w32e (by omega) (by omega)]) ?_
              rw [mt]
              show _ = (if _ then _ else _)
              rw [if_pos ⟨by omega, lk⟩, w32e (by omega) (by omega)]; omega
            · rw [if_neg x7z]
              refine inv _ _ (by rw [ct, ← e1, w32e (by omega) (by omega)]) ?_
              rw [mt]
              show _ = (if _ then _ else _)
              rw [if_neg (fun z => x7z (by omega))]; exact e2
          · rw [if_neg lk] at ct
            rw [if_neg lk, if_pos rfl]
            refine inv _ _ (by rw [ct]; exact e1) ?_
            rw [mt]
            show _ = (if _ then _ else _)
            rw [if_neg (fun z => lk z.2)]; exact e2
  rw [F_X12_workLook_s]
  unfold B_X12_workLook
  refine ⟨b3, b4, ?_⟩
  rw [b1.1, km]
  rcases hk with ⟨e1, e2, e3⟩ | ⟨e1, e2, e3⟩
  · subst e2; subst e3
    rw [if_pos (by omega)]
    unfold F_X12_workLook_22
    refine e_under (k := 1) h hi k1 ?_
    rw [if_pos (by omega)]; exact k42
  · subst e2; subst e3
    rw [if_neg (by omega)]
    unfold F_X12_workLook_22
    refine e_under (k := 0) h hi k1 ?_
    rw [if_neg (by omega)]; exact k42
end Wk2
