/-! ===== the reference: a formula's value, form by form ===== -/
theorem kM_a {p : Prt} (h : WfP p) : (p.1 ≤ 12 → kM p = p.1 + 9) ∧ (p.1 = 13 → kM p = 7) ∧ (18 ≤ p.1 → kM p = p.1 + 12) ∧ (p.1 = 14 → ∃ l, p.2.2.1 = some l ∧ WfL l ∧ kM p = l.1) ∧ (p.1 = 15 → kM p = 4) ∧ (p.1 = 16 → kM p = 5) ∧ (p.1 = 17 → kM p = 6) := by
  have h1 := h.1
  unfold kM
  refine ⟨fun c => ?_, fun c => ?_, fun c => ?_, fun c => ?_, fun c => ?_, fun c => ?_, fun c => ?_⟩
  · rw [if_neg (by omega), if_neg (by omega), if_neg (by omega), if_neg (by omega), if_neg (by omega), if_pos c]
  · rw [if_neg (by omega), if_neg (by omega), if_neg (by omega), if_neg (by omega), if_pos c]
  · rw [if_neg (by omega), if_neg (by omega), if_neg (by omega), if_neg (by omega), if_neg (by omega), if_neg (by omega)]
  · rw [if_pos c]
    have h2 := h.2.1
    revert h2
    cases p.2.2.1 with
    | none => exact fun h2 => absurd c h2
    | some l => exact fun h2 => ⟨l, rfl, h2.2, rfl⟩
  · rw [if_neg (by omega), if_pos c]
  · rw [if_neg (by omega), if_neg (by omega), if_pos c]
  · rw [if_neg (by omega), if_neg (by omega), if_neg (by omega), if_pos c]
theorem chI {ps : List Prt} (W : WfV ps) {i k : Nat} (hi : i < ps.length) (hk : (k : Int) < (ps.getD i pd0).2.1) : chO (ps.getD i pd0).1 k (ps.getD (agI ps i k) pd0).1 := (W.1.1 i hi).2 k hk
section Wk
variable {s : Int} {E : Int → Sh} {V : Int → Int → Int → Lit} {q0 : Int} {ps : List Prt}
/-- part j is worked out, with N or more to spare -/
def WkR (s : Int) (E : Int → Sh) (V : Int → Int → Int → Lit) (q0 : Int) (ps : List Prt) (j N : Nat) : Prop := ∀ (n : Nat) (u : Mu) (d : Int) (P : Mu → Prop), N ≤ n → EvM u s E V q0 ps → (ps.getD j pd0).1 ≠ 17 → ¬ alnP ps j → 0 ≤ d → d ≤ bgI ps j → (∀ v, FrT (fun e => d ≤ e) u v → HdM v d (EvA E V ps j) → P v) → F_X12_work n (q0 + j) s d u P
theorem e_under {u : Mu} {i k : Nat} {P : Int → Prop} (h : EvM u s E V q0 ps) (hi : i < ps.length) (hk : (k : Int) < (ps.getD i pd0).2.1) (p : P (q0 + (agI ps i k : Nat))) : F_X12_under (q0 + i) k u P := by
  obtain ⟨h1, h2, -⟩ := WfV_i h.2.2.2.1 hi
  have a := agI_w h.2.2.2.1 hi hk
  refine i_under (n := (ps.getD i pd0).2.1.toNat) h.2.1 (by omega) (by omega) (by rw [Int.toNat_natCast]; omega) (fun m hm => wlk_b hi h1 h2 hm) (by omega) (by omega) ?_ ?_
  · have := (WfP_a (h.2.2.2.1.2 i hi))
    omega
  · rw [Int.toNat_natCast, ← a.1]; exact p
theorem e_arg {u : Mu} {i k : Nat} {n N : Nat} {d e : Int} {P : Mu → Prop} (HI : ∀ j, j < i → WkR s E V q0 ps j N) (hN : N ≤ n) (h : EvM u s E V q0 ps) (hi : i < ps.length) (hk : (k : Int) < (ps.getD i pd0).2.1) (ho : ¬ ((ps.getD i pd0).1 = 29 ∨ (ps.getD i pd0).1 = 30)) (h17 : (ps.getD (agI ps i k) pd0).1 ≠ 17) (d0 : 0 ≤ d) (db : d ≤ bgI ps i) (e0 : d ≤ e) (e1 : e ≤ d + k) (p : ∀ v, FrT (fun x => e ≤ x) u v → EvM v s E V q0 ps → HdM v e (EvA E V ps (agI ps i k)) → P v) : F_X12_work n (q0 + (agI ps i k : Nat)) s e u P := by
  have a := agI_w h.2.2.2.1 hi hk
  have b := bgI_k h.2.2.2.1 hi k hk
  exact HI _ a.2 n u e P hN h h17 (aln_arg h.2.2.2.1 hi hk ho) (by omega) (by omega) (fun v f hv => p v f (EvM_f f.1 h) hv)
theorem d_60 {u : Mu} {i : Nat} (h : EvM u s E V q0 ps) (hi : i < ps.length) : bgI ps i ≤ 59 := by
  have := (bgI_w h.2.2.2.1 hi).2.2
  have := h.2.2.2.2
  omega
theorem e_two {u : Mu} {i n N : Nat} {d : Int} {P : Mu → Prop} (HI : ∀ j, j < i → WkR s E V q0 ps j N) (hN : N ≤ n) (h : EvM u s E V q0 ps) (hi : i < ps.length) (c : (ps.getD i pd0).1 ≤ 12) (d0 : 0 ≤ d) (db : d ≤ bgI ps i) (p : ∀ v, FrT (fun x => d ≤ x) u v → HdM v d (EvA E V ps i) → P v) : F_X12_workTwo (n + 1) (q0 + i) s d u P := by
  have W := h.2.2.2.1
  have wa := WfP_a (W.2 i hi)
  have k0 : ((0 : Nat) : Int) < (ps.getD i pd0).2.1 := by omega
  have k1 : ((1 : Nat) : Int) < (ps.getD i pd0).2.1 := by omega
  have d6 := d_60 h hi
  have c0 := chI W hi k0
  have c1 := chI W hi k1
  unfold chO at c0 c1
  have ev : EvA E V ps i = twoV (ps.getD i pd0).1 (EvA E V ps (agI ps i 0)) (EvA E V ps (agI ps i 1)) := by
    show evV _ _ _ _ _ = _
    rw [evV_s W hi, st_12 c]; rfl
  rw [ev] at p
  unfold twoV at p
  have o0 := EvM_V h (i := agI ps i 0) (by have := (agI_w W hi k0).2; omega)
  have o1 := EvM_V h (i := agI ps i 1) (by have := (agI_w W hi k1).2; omega)
  generalize hl : EvA E V ps (agI ps i 0) = l at *
  generalize hm : EvA E V ps (agI ps i 1) = m at *
  rw [show F_X12_workTwo (n + 1) (q0 + i) s d u P = B_X12_workTwo (F_X12_work n) (F_X12_workCall n) (F_X12_workEnd n) (F_X12_workIf n) (F_X12_workLook n) (F_X12_workMany n) (F_X12_workOne n) (F_X12_workTwo n) (q0 + i) s d u P from rfl]
  unfold B_X12_workTwo
  refine e_under (k := 0) h hi k0 ?_
  refine e_arg HI hN h hi k0 (by omega) (by omega) d0 db (Int.le_refl d) (by omega) (fun v f hv H => ?_)
  rw [hl] at H
  refine ⟨d0, by omega, ?_⟩
  rw [H.1]
  by_cases c4 : l.1 = 4
  · rw [if_pos c4]; rw [if_pos c4] at p; exact p v f H
  rw [if_neg c4]; rw [if_neg c4] at p
  refine e_under (k := 1) hv hi k1 ?_
  rw [w32e (x := d + 1) (by omega) (by omega)]
  refine e_arg HI hN hv hi k1 (by omega) (by omega) d0 db (by omega) (by omega) (fun w g hw K => ?_)
  rw [hm] at K
  have fg : FrT (fun x => d ≤ x) u w := FrS_tr f (FrS_mo g (fun e he => by have he : d + 1 ≤ e := he; show d ≤ e; omega))
  have H2 := HdM_f g (by show ¬ d + 1 ≤ d; omega) (fun _ => (VOk_b o0).1) H
  obtain ⟨g1, g2, g3, g4⟩ := E_op hw hi
  have km := (kM_a (W.2 i hi)).1 c
  unfold F_X12_workTwo_137
  refine ⟨g3, g4, by omega, by omega, ?_⟩
  rw [K.1, g1.1, km]
  have u1 : ∀ y, FrS (fun x => x = d) w y → FrT (fun x => d ≤ x) u y := fun y q => FrS_tr fg (FrS_mo (FrT_of q) (fun e he => by rw [he]; exact Int.le_refl d))
  have u2 : ∀ y, FrS (fun x => d ≤ x) w y → FrT (fun x => d ≤ x) u y := fun y q => FrS_tr fg (FrT_of q)
  by_cases m4 : m.1 = 4
  · rw [if_pos m4]; rw [if_pos m4] at p
    exact e_bring (by omega) (by omega) d0 (by omega) (VOk_b o1).1 K (fun y q hy => p y (u1 y q) hy)
  rw [if_neg m4]; rw [if_neg m4] at p
  by_cases o6 : (ps.getD i pd0).1 ≤ 6
  · rw [if_neg (by omega)]; rw [if_pos o6] at p
    rw [w32e (by omega) (by omega)]
    refine e_compare d0 (by omega) (by omega) (by omega) o0 o1 H2 K (fun y q hy => p y (u2 y q) ?_)
    rw [show (ps.getD i pd0).1 + 9 - 10 + 1 = (ps.getD i pd0).1 by omega] at hy; exact hy
  rw [if_pos (by omega)]; rw [if_neg o6] at p
  by_cases o7 : (ps.getD i pd0).1 = 7
  · rw [if_pos (by omega)]; rw [if_pos o7] at p
    exact e_join d0 (by omega) o0 o1 c4 m4 H2 K (fun y q hy => p y (u2 y q) hy)
  rw [if_neg (by omega)]; rw [if_neg o7] at p
  refine e_wantsN d0 (by omega) o0 H2 (fun cl y q hy => ?_) (fun cl y q hy => ?_)
  · rw [if_neg (by decide)]
    have K3 := HdM_f q (by show ¬ d + 1 = d; omega) (fun _ => (VOk_b o1).1) K
    refine e_wantsN (by omega) (by omega) o1 K3 (fun cm y2 q2 hy2 => ?_) (fun cm y2 q2 hy2 => ?_)
    · rw [if_neg (by decide)]
      rw [if_pos ⟨cl, cm⟩] at p
      have H4 := HdM_f q2 (by show ¬ d = d + 1; omega) (fun _ => by show (0 : Nat) ≤ 24; decide) hy
      have xl := VOk_x o0
      have xm := VOk_x o1
      refine e_reckon d0 (by omega) (by omega) c xl.1 xl.2 xm.1 xm.2 (H4.2.2 (Or.inl rfl)) (hy2.2.2 (Or.inl rfl)) (fun y3 q3 hy3 => p y3 ?_ hy3)
      exact FrS_tr (FrS_tr (u1 y q) (FrS_mo (FrT_of q2) (fun e he => by rw [he]; show d ≤ d + 1; omega))) (FrS_mo (FrT_of q3) (fun e he => by rw [he]; exact Int.le_refl d))
    · rw [if_pos rfl]
      rw [if_neg (fun z => cm z.2)] at p
      refine e_error d0 (by omega) (fun y3 q3 hy3 => p y3 ?_ hy3)
      exact FrS_tr (FrS_tr (u1 y q) (FrS_mo (FrT_of q2) (fun e he => by rw [he]; show d ≤ d + 1; omega))) (FrS_mo (FrT_of q3) (fun e he => by rw [he]; exact Int.le_refl d))
  · rw [if_pos rfl]
    rw [if_neg (fun z => cl z.1)] at p
    exact p y (u1 y q) hy
theorem e_if {u : Mu} {i n N : Nat} {d : Int} {P : Mu → Prop} (HI : ∀ j, j < i → WkR s E V q0 ps j N) (hN : N ≤ n) (h : EvM u s E V q0 ps) (hi : i < ps.length) (c : (ps.getD i pd0).1 = 18) (d0 : 0 ≤ d) (db : d ≤ bgI ps i) (p : ∀ v, FrT (fun x => d ≤ x) u v → HdM v d (EvA E V ps i) → P v) : F_X12_workIf (n + 1) (q0 + i) s d u P := by
  have W := h.2.2.2.1
  have wa := WfP_a (W.2 i hi)
  have k0 : ((0 : Nat) : Int) < (ps.getD i pd0).2.1 := by omega
  have k1 : ((1 : Nat) : Int) < (ps.getD i pd0).2.1 := by omega
  have k2 : ((2 : Nat) : Int) < (ps.getD i pd0).2.1 := by omega
  have d6 := d_60 h hi
  have c0 := chI W hi k0
  have c1 := chI W hi k1
  have c2 := chI W hi k2
  unfold chO at c0 c1 c2
  have ev : EvA E V ps i = ifV (EvA E V ps (agI ps i 0)) (EvA E V ps (agI ps i 1)) (EvA E V ps (agI ps i 2)) := by
    show evV _ _ _ _ _ = _
    rw [evV_s W hi, st_18 c]; rfl
  rw [ev] at p
  unfold ifV at p
  have o0 := EvM_V h (i := agI ps i 0) (by have := (agI_w W hi k0).2; omega)
  generalize hl : EvA E V ps (agI ps i 0) = l at *
  rw [show F_X12_workIf (n + 1) (q0 + i) s d u P = B_X12_workIf (F_X12_work n) (F_X12_workCall n) (F_X12_workEnd n) (F_X12_workIf n) (F_X12_workLook n) (F_X12_workMany n) (F_X12_workOne n) (F_X12_workTwo n) (q0 + i) s d u P from rfl]
  unfold B_X12_workIf
  refine e_under (k := 0) h hi k0 ?_
  refine e_arg HI hN h hi k0 (by omega) (by omega) d0 db (Int.le_refl d) (by omega) (fun v f hv H => ?_)
  rw [hl] at H
  refine ⟨d0, by omega, ?_⟩
  unfold F_X12_workIf_30
  rw [H.1]
  by_cases c4 : l.1 = 4
  · rw [if_pos c4]; rw [if_pos c4] at p; exact p v f H
  rw [if_neg c4]; rw [if_neg c4] at p
  have u1 : ∀ y, FrS (fun x => x = d) v y → FrT (fun x => d ≤ x) u y := fun y q => FrS_tr f (FrS_mo (FrT_of q) (fun e he => by rw [he]; exact Int.le_refl d))
  refine e_wantsT d0 (by omega) o0 H (fun cl y q hy => ?_) (fun cl y q hy => ?_)
  · rw [if_neg (by decide)]
    rw [if_pos cl] at p
    refine ⟨d0, by omega, ?_⟩
    rw [hy.2.2 (Or.inr (Or.inl rfl))]
    have hye := EvM_f (FrT_of q).1 hv
    unfold F_X12_workIf_47 F_X12_workIf_62
    have x01 : l.2.1 = 0 ∨ l.2.1 = 1 := by rcases o0 with o | o | o | o | o <;> omega
    by_cases x1 : l.2.1 = 1
    · rw [if_pos x1, if_neg (by decide)]
      rw [if_neg (by omega)] at p
      refine e_under (k := 1) hye hi k1 ?_
      exact e_arg HI hN hye hi k1 (by omega) (by omega) d0 db (Int.le_refl d) (by omega) (fun y2 q2 _ K => p y2 (FrS_tr (u1 y q) q2) K)
    · rw [if_neg x1, if_pos rfl]
      rw [if_pos (by omega)] at p
      refine e_under (k := 2) hye hi k2 ?_
      exact e_arg HI hN hye hi k2 (by omega) (by omega) d0 db (Int.le_refl d) (by omega) (fun y2 q2 _ K => p y2 (FrS_tr (u1 y q) q2) K)
  · rw [if_pos rfl]
    rw [if_neg cl] at p
    exact p y (u1 y q) hy
theorem e_one {u : Mu} {i n N : Nat} {d : Int} {P : Mu → Prop} (HI : ∀ j, j < i → WkR s E V q0 ps j N) (hN : N ≤ n) (h : EvM u s E V q0 ps) (hi : i < ps.length) (c : 25 ≤ (ps.getD i pd0).1 ∧ (ps.getD i pd0).1 ≤ 28) (d0 : 0 ≤ d) (db : d ≤ bgI ps i) (p : ∀ v, FrT (fun x => d ≤ x) u v → HdM v d (EvA E V ps i) → P v) : F_X12_workOne (n + 1) (q0 + i) s d u P := by
  have W := h.2.2.2.1
  have wa := WfP_a (W.2 i hi)
  have k0 : ((0 : Nat) : Int) < (ps.getD i pd0).2.1 := by omega
  have d6 := d_60 h hi
  have c0 := chI W hi k0
  unfold chO at c0
  have ev : EvA E V ps i = oneV (ps.getD i pd0).1 (EvA E V ps (agI ps i 0)) := by
    show evV _ _ _ _ _ = _
    rw [evV_s W hi, st_28 c]; rfl
  rw [ev] at p
  unfold oneV at p
  have ai := (agI_w W hi k0)
  have o0 := EvM_V h (i := agI ps i 0) (by omega)
  have e1 : q0 + ((agI ps i 0 : Nat) : Int) = q0 + i - 1 := by
    have e := ai.1
    rw [show (ps.getD i pd0).2.1.toNat - 1 - 0 = 0 by omega] at e
    have : wlk (spnL ps) 0 ((i : Int) - 1) = (i : Int) - 1 := rfl
    omega
  obtain ⟨b1, b2, b3, b4⟩ := E_op h hi
  generalize hl : EvA E V ps (agI ps i 0) = l at *
  rw [show F_X12_workOne (n + 1) (q0 + i) s d u P = B_X12_workOne (F_X12_work n) (F_X12_workCall n) (F_X12_workEnd n) (F_X12_workIf n) (F_X12_workLook n) (F_X12_workMany n) (F_X12_workOne n) (F_X12_workTwo n) (q0 + i) s d u P from rfl]
  unfold B_X12_workOne
  rw [w32e (x := q0 + i - 1) (by omega) (by omega), ← e1]
  refine e_arg HI hN h hi k0 (by omega) (by omega) d0 db (Int.le_refl d) (by omega) (fun v f hv H => ?_)
  rw [hl] at H
  obtain ⟨g1, g2, g3, g4⟩ := E_op hv hi
  have km := (kM_a (W.2 i hi)).2.2.1 (by omega)
  have u1 : ∀ y, FrS (fun x => x = d) v y → FrT (fun x => d ≤ x) u y := fun y q => FrS_tr f (FrS_mo (FrT_of q) (fun e he => by rw [he]; exact Int.le_refl d))
  refine ⟨g3, g4, ?_⟩
  unfold F_X12_workOne_164 F_X12_workOne_41 F_X12_workOne_118 F_X12_workOne_161
  rw [g1.1, km, H.1]
  by_cases o28 : (ps.getD i pd0).1 = 28
  · rw [if_pos (by omega)]; rw [if_pos o28] at p
    refine ⟨d0, by omega, ?_⟩
    by_cases c4 : l.1 = 4
    · rw [if_pos c4]
      exact e_truth (t := true) d0 (by omega) (by decide) (fun y q hy => p y (u1 y q) (by rw [decide_eq_true c4]; exact hy))
    · rw [if_neg c4]
      exact e_truth (t := false) d0 (by omega) (by decide) (fun y q hy => p y (u1 y q) (by rw [decide_eq_false c4]; exact hy))
  rw [if_neg (by omega)]; rw [if_neg o28] at p
  refine ⟨d0, by omega, ?_⟩
  by_cases c4 : l.1 = 4
  · rw [if_pos c4]; rw [if_pos c4] at p; exact p v f H
  rw [if_neg c4]; rw [if_neg c4] at p
  by_cases o27 : (ps.getD i pd0).1 = 27
  · rw [if_pos (by omega)]; rw [if_pos o27] at p
    have tl := VOk_txt o0 c4
    refine e_wantsX d0 (by omega) o0 H (fun y q hy => ⟨d0, by omega, ?_⟩)
    rw [(hy.2.1 tl.1).1]
    refine e_number d0 (by omega) (fun y2 q2 hy2 => p y2 (u1 y2 (FrS_tr q q2)) ?_)
    unfold nuL at hy2
    rw [if_neg (by omega)] at hy2; exact hy2
  rw [if_neg (by omega)]; rw [if_neg o27] at p
  by_cases o25 : (ps.getD i pd0).1 = 25
  · rw [if_pos (by omega)]; rw [if_pos o25] at p
    refine e_wantsT d0 (by omega) o0 H (fun cl y q hy => ?_) (fun cl y q hy => ?_)
    · rw [if_neg (by decide)]
      rw [if_pos cl] at p
      refine ⟨d0, by omega, ?_⟩
      rw [hy.2.2 (Or.inr (Or.inl rfl))]
      by_cases x0 : l.2.1 = 0
      · rw [if_pos x0]
        exact e_truth (t := true) d0 (by omega) (by decide) (fun y2 q2 hy2 => p y2 (u1 y2 (FrS_tr q q2)) (by rw [decide_eq_true x0]; exact hy2))
      · rw [if_neg x0]
        exact e_truth (t := false) d0 (by omega) (by decide) (fun y2 q2 hy2 => p y2 (u1 y2 (FrS_tr q q2)) (by rw [decide_eq_false x0]; exact hy2))
    · rw [if_pos rfl]
      rw [if_neg cl] at p
      exact p y (u1 y q) hy
  rw [if_neg (by omega)]; rw [if_neg o25] at p
  refine e_wantsN d0 (by omega) o0 H (fun cl y q hy => ?_) (fun cl y q hy => ?_)
  · rw [if_neg (by decide)]
    rw [if_pos cl] at p
    refine ⟨d0, by omega, ?_⟩
    rw [hy.2.2 (Or.inl rfl)]
    have xl := VOk_x o0
    show (if 0 ≤ l.2.1 then F_X12_number d l.2.1 y P else F_X12_number d (w64 (-l.2.1)) y P)
    have fin : ∀ a, a = abI l.2.1 → F_X12_number d a y P := by
      intro a ha
      have := abI_n l.2.1
      refine e_number d0 (by omega) (fun y2 q2 hy2 => p y2 (u1 y2 (FrS_tr q q2)) ?_)
      unfold nuL at hy2
      rw [if_neg (by omega), ha] at hy2; exact hy2
    have ax : abI l.2.1 = if 0 ≤ l.2.1 then l.2.1 else -l.2.1 := rfl
    by_cases x0 : 0 ≤ l.2.1
    · rw [if_pos x0]; rw [if_pos x0] at ax; exact fin _ ax.symm
    · rw [if_neg x0, w64e (by omega) (by omega)]; rw [if_neg x0] at ax; exact fin _ ax.symm
  · rw [if_pos rfl]
    rw [if_neg cl] at p
    exact p y (u1 y q) hy
end Wk
