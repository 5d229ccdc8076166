/-! ===== the reference: AND to COUNT, all of it ===== -/
section Wk3
variable {s : Int} {E : Int → Sh} {V : Int → Int → Int → Lit} {q0 : Int} {ps : List Prt}
/-- the arguments of part i -/
def itL (E : Int → Sh) (V : Int → Int → Int → Lit) (ps : List Prt) (i : Nat) : List Itm := (List.range (ps.getD i pd0).2.1.toNat).map (fun k => itm (svE E V ps) (avE E V ps) ps (EvA E V ps) (agI ps i k))
theorem itL_len (i : Nat) : (itL E V ps i).length = (ps.getD i pd0).2.1.toNat := by unfold itL; rw [List.length_map, List.length_range]
theorem itL_at {i k : Nat} (h : k < (ps.getD i pd0).2.1.toNat) (d : Itm) : (itL E V ps i).getD k d = itm (svE E V ps) (avE E V ps) ps (EvA E V ps) (agI ps i k) := by
  unfold itL
  rw [List.getD_eq_getElem?_getD, List.getElem?_map, List.getElem?_range h]; rfl
theorem ferS_e {e : Lit} : ∀ L : List Itm, L.foldl ferS (some e) = some e
  | [] => rfl
  | c :: L => by rw [List.foldl_cons]; exact ferS_e L
theorem IOk_L {u : Mu} (h : EvM u s E V q0 ps) {i : Nat} (hi : i < ps.length) : ∀ c ∈ itL E V ps i, IOk c := by
  intro c hc
  obtain ⟨k, hk, rfl⟩ := List.mem_map.mp hc
  rw [List.mem_range] at hk
  have w := (WfP_a (h.2.2.2.1.2 i hi)).2.1
  have a := agI_w h.2.2.2.1 hi (k := k) (by omega)
  exact IOk_itm (EvM_ok h).2.1 (fun _ => EvM_V h (by omega))
theorem e_many {u : Mu} {i n N : Nat} {d : Int} {P : Mu → Prop} (HI : ∀ j, j < i → WkR s E V q0 ps j N) (hN : N ≤ n) (h : EvM u s E V q0 ps) (hi : i < ps.length) (c : 19 ≤ (ps.getD i pd0).1 ∧ (ps.getD i pd0).1 ≤ 24) (d0 : 0 ≤ d) (db : d ≤ bgI ps i) (p : ∀ v, FrT (fun x => d ≤ x) u v → HdM v d (EvA E V ps i) → P v) : F_X12_workMany (n + 1) (q0 + i) s d u P := by
  have W := h.2.2.2.1
  have wa := WfP_a (W.2 i hi)
  have wm := wa.2.2.2.2.2.2.1 c.1 c.2
  have d6 := d_60 h hi
  have km := (kM_a (W.2 i hi)).2.2.1 (by omega)
  obtain ⟨b1, b2, b3, b4⟩ := E_op h hi
  have iok := IOk_L h hi
  have ev : EvA E V ps i = manV (ps.getD i pd0).1 (itL E V ps i) := by
    show evV _ _ _ _ _ = _
    rw [evV_s W hi, st_24 c]; rfl
  rw [ev] at p
  unfold manV at p
  have Ll := itL_len (E := E) (V := V) (ps := ps) i
  have La := fun k (hk : k < (ps.getD i pd0).2.1.toNat) => itL_at (E := E) (V := V) (ps := ps) hk (.inr none)
  have ov := fun k (hk : k < (ps.getD i pd0).2.1.toNat) => EvM_V h (i := agI ps i k) (by have := (agI_w W hi (k := k) (by omega)).2; omega)
  generalize itL E V ps i = L at *
  have gone : ∀ (e : Lit) (v : Mu) (k : Int), VOk e → 0 ≤ k → k < 8 → FrT (fun x => d ≤ x) u v → HdM v (d + k) e → (∀ y, FrT (fun x => d ≤ x) u y → HdM y d e → P y) → F_X12_bring (w32 (d + k)) d v (fun u_84 => P u_84) := by
    intro e v k he hk0 hk1 f H pp
    rw [w32e (by omega) (by omega)]
    exact e_bring (by omega) (by omega) d0 (by omega) (VOk_b he).1 H (fun y q hy => pp y (FrS_tr f (FrS_mo (FrT_of q) (fun x hx => by rw [hx]; exact Int.le_refl d))) hy)
  rw [F_X12_workMany_s]
  unfold B_X12_workMany
  refine ⟨b3, b4, b3, b4, ?_⟩
  rw [b1.1, b1.2.1, km]
  unfold F_X12_workMany_19
  refine lp_I (fun q => (0 ≤ q.1 ∧ q.1 ≤ (ps.getD i pd0).2.1) ∧ FrT (fun x => d ≤ x) u q.2 ∧ EvM q.2 s E V q0 ps ∧ (∀ j : Nat, (j : Int) < q.1 → (ps.getD (agI ps i j) pd0).1 ≠ 17 → HdM q.2 (d + j) (EvA E V ps (agI ps i j))) ∧ ((ps.getD i pd0).1 ≠ 24 → (L.take q.1.toNat).foldl ferS none = none)) (fun q => ((ps.getD i pd0).2.1 - q.1).toNat) ?_ _ ⟨⟨by show (0 : Int) ≤ 0; omega, by show (0 : Int) ≤ _; omega⟩, FrS_rf, h, fun j hj => by exfalso; have : (j : Int) < 0 := hj; omega, fun _ => rfl⟩
  rintro G ⟨k, w⟩ ⟨⟨k0, k1⟩, f, hw, e1, e2⟩ ih
  simp only at k0 k1 f hw e1 e2
  show L_X12_workMany_19 (F_X12_work n) (F_X12_workCall n) (F_X12_workEnd n) (F_X12_workIf n) (F_X12_workLook n) (F_X12_workMany n) (F_X12_workOne n) (F_X12_workTwo n) (q0 + i) s d ((ps.getD i pd0).1 + 12) (ps.getD i pd0).2.1 k w _
  unfold L_X12_workMany_19
  by_cases ck : (ps.getD i pd0).2.1 ≤ k
  · rw [if_pos ck]
    have et : L.take k.toNat = L := List.take_of_length_le (by omega)
    rw [et] at e2
    have pf : (if (ps.getD i pd0).1 = 24 then none else ferV L) = none := by
      split
      · rfl
      · next z => exact e2 z
    rw [pf] at p
    simp only at p
    show ∀ u_96, _ → _
    intro w1 z1 w2 z2 w3 z3 w4 z4 w5 z5 w6 z6
    have f6 : FrT (fun _ => False) w w6 := by
      subst z6; subst z5; subst z4; subst z3; subst z2; subst z1
      exact FrT_0 (FrT_0 (FrT_g0 (FrT_g0 (FrT_0 (FrT_0 FrS_rf (by decide)) (by decide)) (by decide)) (by decide)) (by decide)) (by decide)
    have ct6 : CtM w6 (ps.getD i pd0).1 [] := by
      subst z6; subst z5; subst z4; subst z3; subst z2; subst z1
      refine ⟨?_, ?_, fun z => absurd rfl z, ?_, ?_⟩ <;> simp only [mI_uI, mG_uG, mI_uG, mG_uI] <;> rfl
    have e81 : mI w6 0 81 = s := by
      subst z6; subst z5; subst z4; subst z3; subst z2; subst z1
      simp only [mI_uI, mI_uG]; rfl
    have hw6 := EvM_f f6.1 hw
    have fu6 : FrT (fun x => d ≤ x) u w6 := FrS_tr f (FrS_mo f6 (fun _ z => z.elim))
    have e16 : ∀ j : Nat, (j : Int) < (ps.getD i pd0).2.1 → (ps.getD (agI ps i j) pd0).1 ≠ 17 → HdM w6 (d + j) (EvA E V ps (agI ps i j)) := fun j hj h17 => HdM_f f6 (fun z => z) (fun _ => (VOk_b (ov j (by omega))).1) (e1 j (by omega) h17)
    unfold F_X12_workMany_127
    refine lp_I (fun q => (0 ≤ q.1 ∧ q.1 ≤ (ps.getD i pd0).2.1) ∧ FrT (fun x => d ≤ x) u q.2 ∧ EvM q.2 s E V q0 ps ∧ (∀ j : Nat, q.1 ≤ (j : Int) → (j : Int) < (ps.getD i pd0).2.1 → (ps.getD (agI ps i j) pd0).1 ≠ 17 → HdM q.2 (d + j) (EvA E V ps (agI ps i j))) ∧ mI q.2 0 81 = s ∧ ∃ xs, (L.take q.1.toNat).foldl (argT (ps.getD i pd0).1) (.inr []) = .inr xs ∧ CtM q.2 (ps.getD i pd0).1 xs) (fun q => ((ps.getD i pd0).2.1 - q.1).toNat) ?_ _ ⟨⟨by show (0 : Int) ≤ 0; omega, by show (0 : Int) ≤ _; omega⟩, fu6, hw6, fun j _ hj h17 => e16 j hj h17, e81, [], rfl, ct6⟩
    clear ih
    rintro G2 ⟨k, y⟩ ⟨⟨k0, k1⟩, g, hy, a1, a81, xs, a2, a3⟩ ih
    simp only at k0 k1 g hy a1 a81 a2 a3
    have xl : xs.length ≤ 2560 := by
      have := tlN_args (op := (ps.getD i pd0).1) (L.take k.toNat) (.inr []) (fun z hz => iok z (List.mem_of_mem_take hz))
      rw [a2, List.length_take] at this
      have t1 : tlN (.inr xs) = xs.length := rfl
      have t2 : tlN (.inr []) = 0 := rfl
      omega
    show L_X12_workMany_127 (F_X12_work n) (F_X12_workCall n) (F_X12_workEnd n) (F_X12_workIf n) (F_X12_workLook n) (F_X12_workMany n) (F_X12_workOne n) (F_X12_workTwo n) (q0 + i) s d ((ps.getD i pd0).1 + 12) (ps.getD i pd0).2.1 k y _
    unfold L_X12_workMany_127
    by_cases ck : (ps.getD i pd0).2.1 ≤ k
    · rw [if_pos ck]
      have et : L.take k.toNat = L := List.take_of_length_le (by omega)
      rw [et] at a2
      rw [a2] at p
      simp only at p
      have tk := TOk_args (op := (ps.getD i pd0).1) L (.inr []) (fun x hx => by cases hx) iok
      rw [a2] at tk
      show F_X12_come _ d y (fun u_237 => P u_237)
      exact e_come d0 (by omega) a3 tk (by omega) (fun y2 q2 hy2 => p y2 (FrS_tr g (FrS_mo (FrT_of q2) (fun x hx => by rw [hx]; exact Int.le_refl d))) hy2)
    · rw [if_neg ck]
      have kn : ((k.toNat : Nat) : Int) = k := Int.toNat_of_nonneg k0
      have kl : k.toNat < (ps.getD i pd0).2.1.toNat := by omega
      have aw := agI_w W hi (k := k.toNat) (by omega)
      have ch := aln_arg W hi (k := k.toNat) (by omega) (by omega)
      have hk : ((k.toNat : Nat) : Int) < (ps.getD i pd0).2.1 := by omega
      have ue := e_under (k := k.toNat) (P := fun x_138 => (0 ≤ x_138 ∧ x_138 < 60420 ∧ (if mI y 26 x_138 = 6 then F_X12_area x_138 s y (fun x_179 u_179 => (if x_179 = 0 then F_X12_error (w32 (d + k)) 1 u_179 (fun u_206 => F_X12_workMany_212 (F_X12_work n) (F_X12_workCall n) (F_X12_workEnd n) (F_X12_workIf n) (F_X12_workLook n) (F_X12_workMany n) (F_X12_workOne n) (F_X12_workTwo n) (q0 + i) s d ((ps.getD i pd0).1 + 12) (ps.getD i pd0).2.1 k 0 u_206 (fun o => match o with
          | .inl s' => G2 s'
          | .inr e => (match e with
            | (.inl u) => F_X12_come ((ps.getD i pd0).1 + 12) d u (fun u_237 => P u_237)
            | (.inr (x6, u)) => F_X12_bring (w32 (d + x6)) d u (fun u_223 => P u_223)))) else F_X12_countArea ((ps.getD i pd0).1 + 12) (w32 (d + k)) u_179 (fun x_192 u_192 => F_X12_workMany_212 (F_X12_work n) (F_X12_workCall n) (F_X12_workEnd n) (F_X12_workIf n) (F_X12_workLook n) (F_X12_workMany n) (F_X12_workOne n) (F_X12_workTwo n) (q0 + i) s d ((ps.getD i pd0).1 + 12) (ps.getD i pd0).2.1 k x_192 u_192 (fun o => match o with
          | .inl s' => G2 s'
          | .inr e => (match e with
            | (.inl u) => F_X12_come ((ps.getD i pd0).1 + 12) d u (fun u_237 => P u_237)
            | (.inr (x6, u)) => F_X12_bring (w32 (d + x6)) d u (fun u_223 => P u_223)))))) else F_X12_countOne ((ps.getD i pd0).1 + 12) x_138 (w32 (d + k)) y (fun x_167 u_167 => F_X12_workMany_212 (F_X12_work n) (F_X12_workCall n) (F_X12_workEnd n) (F_X12_workIf n) (F_X12_workLook n) (F_X12_workMany n) (F_X12_workOne n) (F_X12_workTwo n) (q0 + i) s d ((ps.getD i pd0).1 + 12) (ps.getD i pd0).2.1 k x_167 u_167 (fun o => match o with
          | .inl s' => G2 s'
          | .inr e => (match e with
            | (.inl u) => F_X12_come ((ps.getD i pd0).1 + 12) d u (fun u_237 => P u_237)
            | (.inr (x6, u)) => F_X12_bring (w32 (d + x6)) d u (fun u_223 => P u_223))))))) hy hi hk
      rw [kn] at ue
      refine ue ?_
      obtain ⟨t1, t2, t3, t4⟩ := E_op hy (j := agI ps i k.toNat) (by omega)
      have k6 := kM_17 t1.2.2.2.2.2.2.2.2.2
      refine ⟨t3, t4, ?_⟩
      rw [t1.1, w32e (x := d + k) (by omega) (by omega)]
      have tk := fold_tk (argT (ps.getD i pd0).1) (L := L) (k := k.toNat) (by omega) (.inr none) (.inr [])
      have td := fold_td (argT (ps.getD i pd0).1) L (k.toNat + 1) (.inr [])
      rw [a2, La k.toNat kl] at tk
      unfold itm at tk
      -- what becomes of it
      have good : ∀ (ys : List Int) (v : Mu), argT (ps.getD i pd0).1 (.inr xs) (itm (svE E V ps) (avE E V ps) ps (EvA E V ps) (agI ps i k.toNat)) = .inr ys → FrT (fun x => x = d + k) y v → CtM v (ps.getD i pd0).1 ys → mI v 0 81 = s → F_X12_workMany_212 (F_X12_work n) (F_X12_workCall n) (F_X12_workEnd n) (F_X12_workIf n) (F_X12_workLook n) (F_X12_workMany n) (F_X12_workOne n) (F_X12_workTwo n) (q0 + i) s d ((ps.getD i pd0).1 + 12) (ps.getD i pd0).2.1 k 1 v (fun o => match o with
          | .inl s' => G2 s'
          | .inr e => (match e with
            | (.inl u) => F_X12_come ((ps.getD i pd0).1 + 12) d u (fun u_237 => P u_237)
            | (.inr (x6, u)) => F_X12_bring (w32 (d + x6)) d u (fun u_223 => P u_223))) := by
        intro ys v ea q cv e8
        unfold F_X12_workMany_212
        rw [if_neg (by decide), w32e (by omega) (by omega)]
        refine ih _ ⟨⟨by show 0 ≤ k + 1; omega, by show k + 1 ≤ _; omega⟩, FrS_tr g (FrS_mo q (fun x hx => by rw [hx]; show d ≤ d + k; omega)), EvM_f q.1 hy, fun j hj1 hj2 h17 => ?_, e8, ys, ?_, cv⟩ (by show ((ps.getD i pd0).2.1 - (k + 1)).toNat < ((ps.getD i pd0).2.1 - k).toNat; omega)
        · have hj1 : k + 1 ≤ (j : Int) := hj1
          exact HdM_f q (by show ¬ d + (j : Int) = d + k; omega) (fun _ => (VOk_b (ov j (by omega))).1) (a1 j (by omega) hj2 h17)
        · show (L.take (k + 1).toNat).foldl _ _ = _
          rw [show (k + 1).toNat = k.toNat + 1 by omega]
          unfold itm at ea
          rw [tk]; exact ea
      have bad : ∀ (e : Lit) (v : Mu), argT (ps.getD i pd0).1 (.inr xs) (itm (svE E V ps) (avE E V ps) ps (EvA E V ps) (agI ps i k.toNat)) = .inl e → FrT (fun x => x = d + k) y v → HdM v (d + k) e → F_X12_workMany_212 (F_X12_work n) (F_X12_workCall n) (F_X12_workEnd n) (F_X12_workIf n) (F_X12_workLook n) (F_X12_workMany n) (F_X12_workOne n) (F_X12_workTwo n) (q0 + i) s d ((ps.getD i pd0).1 + 12) (ps.getD i pd0).2.1 k 0 v (fun o => match o with
          | .inl s' => G2 s'
          | .inr e => (match e with
            | (.inl u) => F_X12_come ((ps.getD i pd0).1 + 12) d u (fun u_237 => P u_237)
            | (.inr (x6, u)) => F_X12_bring (w32 (d + x6)) d u (fun u_223 => P u_223))) := by
        intro e v ea q He
        unfold F_X12_workMany_212
        rw [if_pos rfl]
        unfold itm at ea
        rw [tk, ea, argT_e] at td
        have tok := TOk_args (op := (ps.getD i pd0).1) L (.inr []) (fun x hx => by cases hx) iok
        rw [td] at tok p
        simp only at p
        exact gone e v k tok.1 k0 (by omega) (FrS_tr g (FrS_mo q (fun x hx => by rw [hx]; show d ≤ d + k; omega))) He p
      by_cases h17 : (ps.getD (agI ps i k.toNat) pd0).1 = 17
      · rw [if_pos (k6.mpr h17)]
        have ei : itm (svE E V ps) (avE E V ps) ps (EvA E V ps) (agI ps i k.toNat) = .inr (avE E V ps (agI ps i k.toNat)) := by unfold itm; rw [if_pos h17]
        refine e_area hy (by omega) (fun en y2 q2 c2 => ?_) (fun t b lf r c17 ea y2 q2 c2 A => ?_)
        · rw [if_pos rfl]
          refine e_error (by omega) (by omega) (fun y3 q3 hy3 => ?_)
          refine bad (erL 1) y3 (by rw [ei, en]; rfl) (FrS_tr (FrS_mo q2 (fun _ z => z.elim)) (FrT_of q3)) hy3
        · rw [if_neg (by decide)]
          obtain ⟨⟨m1, m2, m3, m4⟩, -, m5⟩ := (EvM_f q2.1 hy).2.2.1.2 (agI ps i k.toNat) (by omega) (Or.inr c17)
          have m5 := m5 c17 t b lf r ea
          have ab := arP_b m2 ea
          have av : avE E V ps (agI ps i k.toNat) = some (arL (V (ps.getD (agI ps i k.toNat) pd0).2.2.2.2.2) (t, b, lf, r)) := by
            unfold avE; rw [if_pos c17, ea]; rfl
          refine e_countArea (by omega) (by omega) c A (by omega) (by omega) m3 m4 m5 (CtM_c c2 a3) (by omega) (fun ys ey v q3 cv e8 => ?_) (fun e ee v q3 He => ?_)
          · exact good ys v (by rw [ei, av]; exact ey) (FrS_tr (FrS_mo q2 (fun _ z => z.elim)) q3) cv (e8.trans (c2.2.2.2.2.2.trans a81))
          · exact bad e v (by rw [ei, av]; exact ee) (FrS_tr (FrS_mo q2 (fun _ z => z.elim)) q3) He
      · rw [if_neg (fun z => h17 (k6.mp z))]
        have ei : itm (svE E V ps) (avE E V ps) ps (EvA E V ps) (agI ps i k.toNat) = .inl (EvA E V ps (agI ps i k.toNat), decide ((ps.getD (agI ps i k.toNat) pd0).1 = 15 ∨ ((ps.getD (agI ps i k.toNat) pd0).1 = 16 ∧ (svE E V ps (agI ps i k.toNat)).isNone = true))) := by unfold itm; rw [if_neg h17]
        have Hk := a1 k.toNat (by omega) (by omega) h17
        rw [kn] at Hk
        refine e_countOne hy (by omega) ch (by omega) (by omega) Hk a3 a81 (by omega) (fun ys ey v q3 cv e8 => ?_) (fun e ee v q3 He => ?_)
        · exact good ys v (by rw [ei]; exact ey) q3 cv (e8.trans a81)
        · exact bad e v (by rw [ei]; exact ee) q3 He
  · rw [if_neg ck]
    have kn : ((k.toNat : Nat) : Int) = k := Int.toNat_of_nonneg k0
    have kl : k.toNat < (ps.getD i pd0).2.1.toNat := by omega
    have hk : ((k.toNat : Nat) : Int) < (ps.getD i pd0).2.1 := by omega
    have aw := agI_w W hi hk
    have tk := fold_tk ferS (L := L) (k := k.toNat) (by omega) (.inr none) none
    have td := fold_td ferS L (k.toNat + 1) none
    rw [La k.toNat kl] at tk
    have next : ∀ v : Mu, FrT (fun x => d + k ≤ x) w v → EvM v s E V q0 ps → ((ps.getD (agI ps i k.toNat) pd0).1 ≠ 17 → HdM v (d + k) (EvA E V ps (agI ps i k.toNat))) → ((ps.getD i pd0).1 ≠ 24 → (ps.getD (agI ps i k.toNat) pd0).1 ≠ 17 → (EvA E V ps (agI ps i k.toNat)).1 ≠ 4) → G (w32 (k + 1), v) := by
      intro v q hv Hv nz
      rw [w32e (by omega) (by omega)]
      refine ih _ ⟨⟨by show 0 ≤ k + 1; omega, by show k + 1 ≤ _; omega⟩, FrS_tr f (FrS_mo q (fun x hx => by have hx : d + k ≤ x := hx; show d ≤ x; omega)), hv, fun j hj h17 => ?_, fun z => ?_⟩ (by show ((ps.getD i pd0).2.1 - (k + 1)).toNat < ((ps.getD i pd0).2.1 - k).toNat; omega)
      · have hj : (j : Int) < k + 1 := hj
        by_cases cj : (j : Int) = k
        · have : j = k.toNat := by omega
          subst this
          rw [kn]; exact Hv h17
        · exact HdM_f q (by show ¬ d + k ≤ d + (j : Int); omega) (fun _ => (VOk_b (ov j (by omega))).1) (e1 j (by omega) h17)
      · show (L.take (k + 1).toNat).foldl ferS none = none
        rw [show (k + 1).toNat = k.toNat + 1 by omega, tk, e2 z]
        unfold itm
        by_cases h17 : (ps.getD (agI ps i k.toNat) pd0).1 = 17
        · rw [if_pos h17]; rfl
        · rw [if_neg h17]
          show (if _ then _ else _) = _
          rw [if_neg (nz z h17)]
    have ue := fun PP => e_under (k := k.toNat) (P := PP) hw hi hk
    rw [kn] at ue
    refine ue _ ?_
    obtain ⟨t1, t2, t3, t4⟩ := E_op hw (j := agI ps i k.toNat) (by omega)
    have k6 := kM_17 t1.2.2.2.2.2.2.2.2.2
    refine ⟨t3, t4, ?_⟩
    unfold F_X12_workMany_88
    rw [t1.1]
    by_cases h17 : (ps.getD (agI ps i k.toNat) pd0).1 = 17
    · rw [if_pos (k6.mpr h17)]
      exact next w FrS_rf hw (fun z => absurd h17 z) (fun _ z => absurd h17 z)
    · rw [if_neg (fun z => h17 (k6.mp z)), w32e (x := d + k) (by omega) (by omega)]
      refine e_arg HI hN hw hi hk (by omega) h17 d0 db (by omega) (by omega) (fun v q hv Hv => ?_)
      refine ⟨by omega, by omega, ?_⟩
      rw [Hv.1]
      by_cases c4 : (EvA E V ps (agI ps i k.toNat)).1 = 4
      · rw [if_pos c4]
        by_cases c24 : (ps.getD i pd0).1 = 24
        · rw [if_pos (by omega)]
          exact next v q hv (fun _ => Hv) (fun z => absurd c24 z)
        · rw [if_neg (by omega)]
          rw [e2 c24] at tk
          have tk2 : ferS none (itm (svE E V ps) (avE E V ps) ps (EvA E V ps) (agI ps i k.toNat)) = some (EvA E V ps (agI ps i k.toNat)) := by
            unfold itm
            rw [if_neg h17]
            show (if _ then _ else _) = _
            rw [if_pos c4]
          rw [tk, tk2, ferS_e] at td
          have pf : (if (ps.getD i pd0).1 = 24 then none else ferV L) = some (EvA E V ps (agI ps i k.toNat)) := by
            rw [if_neg c24]; exact td
          rw [pf] at p
          simp only at p
          show F_X12_bring (w32 (d + k)) d v (fun u_84 => P u_84)
          exact gone _ v k (ov k.toNat kl) k0 (by omega) (FrS_tr f (FrS_mo q (fun x hx => by have hx : d + k ≤ x := hx; show d ≤ x; omega))) Hv p
      · rw [if_neg c4]
        exact next v q hv (fun _ => Hv) (fun _ _ => c4)
end Wk3
