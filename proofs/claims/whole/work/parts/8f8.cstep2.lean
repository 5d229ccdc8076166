/-! ===== the system: each part, and the whole formula ===== -/
theorem crz_9 : ∀ t ∈ crz, t.1 = 4 → ¬ t.2.1 = 9 := by decide
section Wp
variable {z y : Z} {b sv sb : Nat → Nat} {J : Nat → Prop} {E : Int → Sh} {V : Int → Int → Int → Lit} {ps : List Prt} {pa : Nat}
theorem ch_17 (W : WfV ps) {i k : Nat} (hi : i < ps.length) (hk : (k : Int) < (ps.getD i pd0).2.1) (c : (ps.getD (agI ps i k) pd0).1 = 17) : (19 ≤ (ps.getD i pd0).1 ∧ (ps.getD i pd0).1 ≤ 24) ∨ ((ps.getD i pd0).1 = 33 ∧ k = 0) ∨ ((ps.getD i pd0).1 = 34 ∧ k = 1) ∨ ((ps.getD i pd0).1 = 35 ∧ k = 0) := ((W.1.1 i hi).2 k hk).1 c
theorem k9_cop {i s : Nat} {P : Z → Prop} (H : EvC z b J sv sb E V ps pa) (hi : i < ps.length) (hop : (29 ≤ (ps.getD i pd0).1 ∧ (ps.getD i pd0).1 ≤ 30) ∨ 33 ≤ (ps.getD i pd0).1) (hs : s + (ps.getD i pd0).2.1.toNat ≤ 60) (En : ∀ k : Nat, k < (ps.getD i pd0).2.1.toNat → Ent z sv sb E V ps (s + k) (agI ps i k)) (p : ∀ y, VX y (sv s) (sb s) (EvA E V ps i) → zI y (sv s) 3 = 0 → FrZ (WkU b sv sb s) z y → P y) : F_X9_callOfPlace (b 4) (ps.getD i pd0).1 (s : Int) (ps.getD i pd0).2.1 z P := by
  have K := H.1
  have W := H.2.2.2.2.1
  have C := CX_4 K
  have wa := WfP_a (W.2 i hi)
  have ev := evV_s (sv := svE E V ps) (av := avE E V ps) (pl := plE E ps) W hi
  have aj := fun k (hk : k < (ps.getD i pd0).2.1.toNat) => (agI_w W hi (k := k) (by omega)).2
  unfold F_X9_callOfPlace F_X9_callOfPlace_33
  by_cases c1 : (ps.getD i pd0).1 ≤ 30
  · have c29 : 29 ≤ (ps.getD i pd0).1 ∧ (ps.getD i pd0).1 ≤ 30 := by omega
    have n1 : (ps.getD i pd0).2.1 = 1 := wa.2.2.2.2.2.2.2.1 (by omega) (by omega)
    have E0 := En 0 (by omega)
    rw [n1, w32e (x := (s : Int) + 1) (by omega) (by omega), w32e (x := (s : Int) + 1 - 1) (by omega) (by omega), show (s : Int) + 1 - 1 = s by omega]
    have S := K.2.2.1.1 s (by omega)
    have h60 : s < 60 := by omega
    refine ⟨C.1, b 22, C.2.1, C.2.2.1, by omega, by rw [C.2.2.2]; omega, by omega, by rw [C.2.2.2]; omega, ?_⟩
    rw [if_neg (by omega), if_neg (by omega), S.1]
    have ee : EvA E V ps i = rcV (ps.getD i pd0).1 (plE E ps (agI ps i 0)) := by show evV _ _ _ _ _ = _; rw [ev, st_30 c29]
    rw [ee] at p
    have ai : agI ps i 0 + 1 = i := by
      have q := (agI_w W hi (k := 0) (by omega)).1
      rw [n1] at q
      have q : ((agI ps i 0 : Nat) : Int) = (i : Int) - 1 := q
      omega
    have ch : (ps.getD (agI ps i 0) pd0).1 = 15 ∨ (ps.getD (agI ps i 0) pd0).1 = 16 := ((W.1.1 i hi).2 0 (by omega)).2 (by omega)
    have jl : agI ps i 0 < ps.length := by omega
    rw [Nat.add_zero] at E0
    have B := S.2
    unfold F_X9_callOfPlace_48 F_X9_callOfPlace_158
    rcases ch with c15 | c16
    · have X := (E0.2 (fun w => by omega)).1
      have ej : EvA E V ps (agI ps i 0) = erL 1 := by show evV _ _ _ _ _ = _; rw [evV_s W jl, st_15 (Or.inl c15)]
      rw [ej] at X
      refine ⟨sv s, rfl, B.1, ?_⟩
      rw [X.1.1.2.1, if_pos (show (erL 1).1 = 4 from rfl)]
      refine ⟨sv s, rfl, B.1, ?_⟩
      rw [VlS_g X.1 (by show (4 : Int) ≠ 2; decide)]
      refine k_set B (by decide) (fun u g1 g2 g3 => p u ?_ g2 (wu_m (Nat.le_refl _) h60 g3))
      have : plE E ps (agI ps i 0) = none := by unfold plE; rw [if_neg (by omega)]
      rw [this]; exact VX_of B g3 g1
    · have al : alnP ps (agI ps i 0) := by unfold alnP; rw [ai]; omega
      have X := E0.1 (Or.inr ⟨c16, al⟩)
      have epl : plE E ps (agI ps i 0) = spP (E (ps.getD (agI ps i 0) pd0).2.2.2.2.2) (ps.getD (agI ps i 0) pd0) := by unfold plE; rw [if_pos c16]
      obtain ⟨a1, a2⟩ := ar_sp (h := E (ps.getD (agI ps i 0) pd0).2.2.2.2.2) (W.2 _ jl) c16
      refine ⟨sv s, rfl, B.1, ?_⟩
      rw [X.1.1.2.1, if_neg (by show ¬ (6 : Int) = 4; decide)]
      refine ⟨C.1, k9_fp H jl (Or.inl c16) X (fun e u fu => ?_) (fun sh t c l r hsh hcv e u fu F => ?_)⟩
      · rw [if_pos rfl]
        have Ku := WkC_fr K (wk_w (by decide) fu)
        have Bu := (Ku.2.2.1.1 s h60).2
        refine ⟨sv s, rfl, Bu.1, k_set Bu (by decide) (fun v g1 g2 g3 => p v ?_ g2 (FrZ_tr (wu_w (by decide) fu) (wu_m (Nat.le_refl _) h60 g3)))⟩
        rw [epl]
        match hsp : spP (E (ps.getD (agI ps i 0) pd0).2.2.2.2.2) (ps.getD (agI ps i 0) pd0) with
        | none => exact VX_of Bu g3 g1
        | some (r, c) => rw [a2 r c hsp] at e; cases e
      · rw [if_neg (by decide), if_neg (by omega)]
        have Ku := WkC_fr K (wk_w (by decide) fu)
        have Bu := (Ku.2.2.1.1 s h60).2
        match hsp : spP (E (ps.getD (agI ps i 0) pd0).2.2.2.2.2) (ps.getD (agI ps i 0) pd0) with
        | none => rw [a1 hsp] at e; cases e
        | some (r', c') =>
          rw [a2 r' c' hsp] at e
          injection e with e
          injection e with x1 e
          injection e with x2 e
          injection e with x3 x4
          obtain ⟨F1, F2, F3, F4, F5⟩ := F
          rw [epl, hsp] at p
          unfold rcV at p
          simp only at p
          have c121 : F_X9_callOfPlace_121 (b 4) (ps.getD i pd0).1 (some (sv s)) u P := by
            unfold F_X9_callOfPlace_121 F_X9_callOfPlace_143 F_X9_callOfPlace_158
            rw [F2, F4, ← x1, ← x3]
            by_cases c : (ps.getD i pd0).1 = 29
            · rw [if_pos c]
              rw [if_pos c] at p
              exact ⟨cK Ku.1 4 rfl rfl, sv s, rfl, Bu.1, k_set Bu (by decide) (fun v g1 g2 g3 => p v (VX_of Bu g3 g1) g2 (FrZ_tr (wu_w (by decide) fu) (wu_m (Nat.le_refl _) h60 g3)))⟩
            · rw [if_neg c]
              rw [if_neg c] at p
              exact ⟨cK Ku.1 4 rfl rfl, sv s, rfl, Bu.1, k_set Bu (by decide) (fun v g1 g2 g3 => p v (VX_of Bu g3 g1) g2 (FrZ_tr (wu_w (by decide) fu) (wu_m (Nat.le_refl _) h60 g3)))⟩
          by_cases c : (ps.getD i pd0).1 = 29
          · rw [if_pos c]; exact c121
          · rw [if_neg c, if_pos (by omega)]; exact c121
  · have n2 : (ps.getD i pd0).2.1 = 2 := wa.2.2.2.2.2.2.2.2 (by omega)
    have E0 := En 0 (by omega)
    have E1 := En 1 (by omega)
    have na0 := aln_arg W hi (k := 0) (by omega) (by omega)
    have na1 := aln_arg W hi (k := 1) (by omega) (by omega)
    have j0 := aj 0 (by omega)
    have j1 := aj 1 (by omega)
    rw [n2, w32e (x := (s : Int) + 2) (by omega) (by omega), w32e (x := (s : Int) + 2 - 1) (by omega) (by omega), show (s : Int) + 2 - 1 = ((s + 1 : Nat) : Int) by omega]
    have S0 := K.2.2.1.1 s (by omega)
    have S1 := K.2.2.1.1 (s + 1) (by omega)
    rw [Nat.add_zero] at E0
    refine ⟨C.1, b 22, C.2.1, C.2.2.1, by omega, by rw [C.2.2.2]; omega, by omega, by rw [C.2.2.2]; omega, ?_⟩
    rw [S0.1, S1.1]
    have plf : ∀ {t j : Nat}, Ent z sv sb E V ps t j → j < ps.length → ¬ alnP ps j → PlE z sv sb E V ps t (avE E V ps j) := fun {t j} Et jl na => by
      by_cases c17 : (ps.getD j pd0).1 = 17
      · exact Or.inl ⟨j, ⟨jl, c17⟩, Et.1 (Or.inl c17), rfl⟩
      · refine Or.inr ⟨_, Ent_v Et c17 na, (VOk_k (EvC_V H jl)).2, ?_⟩
        unfold avE; rw [if_neg c17]
    by_cases c34 : (ps.getD i pd0).1 = 34
    · rw [if_pos c34, if_pos c34]
      have n17 : (ps.getD (agI ps i 0) pd0).1 ≠ 17 := fun w => by have := ch_17 W hi (k := 0) (by omega) w; omega
      have ee : EvA E V ps i = lokV (ps.getD i pd0).1 (avE E V ps (agI ps i 1)) (EvA E V ps (agI ps i 0)) := by show evV _ _ _ _ _ = _; rw [ev, st_34 c34]; rfl
      rw [ee] at p
      exact k9_c48 H (by omega) (by omega) (by omega) (plf E1 (by omega) na1) (Ent_v E0 n17 na0) (EvC_V H (by omega)) (by omega) p
    · rw [if_neg c34, if_neg c34]
      have n17 : (ps.getD (agI ps i 1) pd0).1 ≠ 17 := fun w => by have := ch_17 W hi (k := 1) (by omega) w; omega
      have ee : EvA E V ps i = lokV (ps.getD i pd0).1 (avE E V ps (agI ps i 0)) (EvA E V ps (agI ps i 1)) := by show evV _ _ _ _ _ = _; rw [ev, st_35 (by omega)]; rfl
      rw [ee] at p
      exact k9_c48 H (by omega) (by omega) (by omega) (plf E0 (by omega) na0) (Ent_v E1 n17 na1) (EvC_V H (by omega)) (by omega) p
theorem k9_callS {i s : Nat} {P : Z → Prop} (H : EvC z b J sv sb E V ps pa) (hi : i < ps.length) (hop : (ps.getD i pd0).1 = 18 ∨ (25 ≤ (ps.getD i pd0).1 ∧ (ps.getD i pd0).1 ≤ 28) ∨ (31 ≤ (ps.getD i pd0).1 ∧ (ps.getD i pd0).1 ≤ 32)) (hs : s + (ps.getD i pd0).2.1.toNat ≤ 60) (En : ∀ k : Nat, k < (ps.getD i pd0).2.1.toNat → Ent z sv sb E V ps (s + k) (agI ps i k)) (p : ∀ y, VX y (sv s) (sb s) (EvA E V ps i) → zI y (sv s) 3 = 0 → FrZ (WkU b sv sb s) z y → P y) : F_X9_call (b 4) (ps.getD i pd0).1 (s : Int) (ps.getD i pd0).2.1 z P := by
  have K := H.1
  have W := H.2.2.2.2.1
  have C := CX_4 K
  have wa := WfP_a (W.2 i hi)
  have ev := evV_s (sv := svE E V ps) (av := avE E V ps) (pl := plE E ps) W hi
  have arg : ∀ k : Nat, k < (ps.getD i pd0).2.1.toNat → VX z (sv (s + k)) (sb (s + k)) (EvA E V ps (agI ps i k)) ∧ VOk (EvA E V ps (agI ps i k)) := fun k hk => by
    have a := (agI_w W hi (k := k) (by omega)).2
    refine ⟨Ent_v (En k hk) (fun w => by have := ch_17 W hi (k := k) (by omega) w; omega) (aln_arg W hi (k := k) (by omega) (by omega)), EvC_V H (by omega)⟩
  have S0 := K.2.2.1.1 s
  have pw : ∀ y, VX y (sv s) (sb s) (EvA E V ps i) → zI y (sv s) 3 = 0 → s < 60 → FrZ (VW (sv s) (sb s)) z y → P y := fun y g1 g2 h6 g3 => p y g1 g2 (wu_m (Nat.le_refl _) h6 g3)
  rcases hop with c | c | c
  · have n3 : (ps.getD i pd0).2.1 = 3 := wa.2.2.2.2.2.1 c
    have ee : EvA E V ps i = ifV (EvA E V ps (agI ps i 0)) (EvA E V ps (agI ps i 1)) (EvA E V ps (agI ps i 2)) := by show evV _ _ _ _ _ = _; rw [ev, st_18 c]; rfl
    obtain ⟨x0, o0⟩ := arg 0 (by omega)
    obtain ⟨x1, o1⟩ := arg 1 (by omega)
    obtain ⟨x2, o2⟩ := arg 2 (by omega)
    rw [ee] at pw
    rw [c, n3]
    have e1 := (K.2.2.1.1 (s + 1) (by omega)).1
    have e2 := (K.2.2.1.1 (s + 2) (by omega)).1
    exact k9_c18 C (by omega) (by omega) (S0 (by omega)).1 (by rw [← e1]; congr 1) (by rw [← e2]; congr 1) x0 x1 x2 o0 o1 o2 (fun y g1 g2 g3 => pw y g1 g2 (by omega) g3)
  · have n1 : (ps.getD i pd0).2.1 = 1 := wa.2.2.2.2.2.2.2.1 (by omega) (by omega)
    have ee : EvA E V ps i = oneV (ps.getD i pd0).1 (EvA E V ps (agI ps i 0)) := by show evV _ _ _ _ _ = _; rw [ev, st_28 c]; rfl
    obtain ⟨x0, o0⟩ := arg 0 (by omega)
    rw [ee] at pw
    by_cases c28 : (ps.getD i pd0).1 = 28
    · rw [c28] at pw ⊢
      exact k9_c28 C (by omega) (by omega) (S0 (by omega)).1 x0 (fun y g1 g2 g3 => pw y g1 g2 (by omega) g3)
    · exact k9_c25 C (by omega) (by omega) (by omega) (S0 (by omega)).1 x0 o0 (fun y g1 g2 g3 => pw y g1 g2 (by omega) g3)
  · have n2 : (ps.getD i pd0).2.1 = 2 := wa.2.2.2.2.2.2.2.2 (by omega)
    have ee : EvA E V ps i = endV (ps.getD i pd0).1 (EvA E V ps (agI ps i 0)) (EvA E V ps (agI ps i 1)) := by show evV _ _ _ _ _ = _; rw [ev, st_32 c]; rfl
    obtain ⟨x0, o0⟩ := arg 0 (by omega)
    obtain ⟨x1, o1⟩ := arg 1 (by omega)
    rw [ee] at pw
    rw [n2]
    have e1 := (K.2.2.1.1 (s + 1) (by omega)).1
    exact k9_c31 C (by omega) (by omega) (by omega) (S0 (by omega)).1 (by rw [← e1]; congr 1) (fun w => by have := K.2.2.1.2.1 _ _ (by omega) (by omega) w; omega) (fun w => by have := K.2.2.1.2.2 _ _ (by omega) (by omega) w; omega) x0 x1 o0 o1 (fun y g1 g2 g3 => pw y g1 g2 (by omega) g3)
theorem EvA_i (W : WfV ps) {i : Nat} (hi : i < ps.length) : EvA E V ps i = stV (svE E V ps) (avE E V ps) (plE E ps) ps (EvA E V ps) i := evV_s W hi
theorem k9_step {i T : Nat} {cell : Int} {Q : (Int × Z) ⊕ (Z ⊕ Z) → Prop} (H : EvC z b J sv sb E V ps pa) (hi : i < ps.length) (S : StE z sv sb E V ps i T) (h10 : zI z (b 4) 10 = (T : Int)) (p : ∀ y T', FrZ (WkW b sv sb) z y → StE y sv sb E V ps (i + 1) T' → zI y (b 4) 10 = (T' : Int) → Q (.inl ((i : Int) + 1, y))) : L_X9_workCell_23 (b 4) cell (i : Int) z Q := by
  have H' := H
  obtain ⟨K, h9, ⟨f1, f2, f3, f4⟩, en, W, n1, n60⟩ := H'
  have C := CX_4 K
  obtain ⟨q, q1, q2⟩ := f4 i hi
  obtain ⟨r1, r2, r3, r4, r5⟩ := id q2
  have wa := WfP_a (W.2 i hi)
  have nT := StE_n W hi S
  have T60 : T < 60 ∨ T = i := by have := S.1; omega
  have Ti : T ≤ i := S.1
  have qb : q ≠ b 4 := (K.2.1 q r1).2.2.2 4 (by decide)
  have k4 : zK z (b 4) ≠ 0 := by rw [C.1]; decide
  have Ea := fun k (hk : k < (ps.getD i pd0).2.1.toNat) => StE_a W hi S hk
  unfold L_X9_workCell_23
  refine ⟨C.1, pa, h9, f2, ?_⟩
  rw [f3, if_neg (by omega)]
  refine ⟨by omega, by omega, q, q1, r2, ?_⟩
  rw [r4, r3, h10, q1]
  -- the end of a part
  have fin : ∀ y, FrZ (WkT b sv sb (T - (ps.getD i pd0).2.1.toNat)) z y → Ent y sv sb E V ps (T - (ps.getD i pd0).2.1.toNat) i → zI y (b 4) 10 = ((T - (ps.getD i pd0).2.1.toNat + 1 : Nat) : Int) → F_X9_workCell_247 (b 4) cell (i : Int) y Q := fun y f e t => by
    unfold F_X9_workCell_247
    rw [w32e (x := (i : Int) + 1) (by omega) (by omega)]
    exact p y _ (wt_W f) (StE_s K W hi n60 S f e) t
  -- the number of slots is not touched
  have tS : ∀ {s : Nat} {u v : Z}, s < 60 → zK u (b 4) ≠ 0 → FrZ (VW (sv s) (sb s)) u v → zI v (b 4) 10 = zI u (b 4) 10 := fun {s u v} h6 hk f => by
    have sT := K.2.2.2.2.1 s h6 4 (by decide)
    refine (f.2 (b 4) 10 hk ?_).1
    rintro (w | w)
    · exact sT.1 w.1.symm
    · exact sT.2 w.symm
  by_cases c0 : (ps.getD i pd0).2.1 = 0
  · rw [if_pos c0]
    refine k9_push H hi q2 c0 (by omega) h10 (fun y e t f => ?_)
    rw [c0] at fin
    exact fin y f e (by rw [t]; rfl)
  rw [if_neg c0, if_pos (by omega)]
  by_cases c13 : (ps.getD i pd0).1 = 13
  · rw [if_pos c13]
    have m1 : (ps.getD i pd0).2.1 = 1 := wa.2.2.2.1 c13
    rw [w32e (x := (T : Int) - 1) (by omega) (by omega)]
    have e0 := Ea 0 (by omega)
    rw [m1] at e0 fin
    have e0 : Ent z sv sb E V ps (T - 1) (agI ps i 0) := e0
    have X := Ent_v e0 (fun w => by have := ch_17 W hi (k := 0) (by omega) w; omega) (aln_arg W hi (k := 0) (by omega) (by omega))
    have ag := (agI_w W hi (k := 0) (by omega)).2
    have St := K.2.2.1.1 (T - 1) (by omega)
    refine ⟨b 22, C.2.1, C.2.2.1, by omega, by rw [C.2.2.2]; omega, ?_⟩
    rw [show (T : Int) - 1 = ((T - 1 : Nat) : Int) by omega, St.1]
    refine k9_negate X (EvC_V H (by omega)) (fun y g1 g2 g3 => ?_)
    refine fin y (wt_m (Nat.le_refl _) (by show T - 1 < 60; omega) g3) (Ent_o ?_ g2 (by omega)) ?_
    · rw [EvA_i W hi, st_13 c13]; exact g1
    · rw [tS (by omega) k4 g3, h10]; show (T : Int) = ((T - 1 + 1 : Nat) : Int); omega
  rw [if_neg c13]
  by_cases c12 : (ps.getD i pd0).1 ≤ 12
  · rw [if_neg (by omega)]
    have m2 : (ps.getD i pd0).2.1 = 2 := wa.2.2.1 c12
    rw [w32e (x := (T : Int) - 1) (by omega) (by omega)]
    intro z1 e1
    have g1 : FrZ (WB b [(4, some 10)]) z z1 := by rw [e1]; exact FrZ_wI FrZ_rf (Or.inl (WB_i (by decide) (by decide)))
    have fW : FrZ (WkW b sv sb) z z1 := wk_w (by decide) g1
    have H1 := EvC_wk H fW
    have K1 := H1.1
    have C1 := CX_4 K1
    have t1 : zI z1 (b 4) 10 = (T : Int) - 1 := by rw [e1, zI_wI, if_pos ⟨rfl, rfl⟩]
    have qi : zI z1 q 0 = (ps.getD i pd0).1 := by rw [e1, zI_wI, if_neg (fun w => qb w.1)]; exact r3
    have e0 := Ea 0 (by omega)
    have e1' := Ea 1 (by omega)
    rw [m2] at e0 e1' fin
    have e0 : Ent z sv sb E V ps (T - 2) (agI ps i 0) := e0
    have e1' : Ent z sv sb E V ps (T - 2 + 1) (agI ps i 1) := e1'
    rw [show T - 2 + 1 = T - 1 by omega] at e1'
    have X0 := Ent_v e0 (fun w => by have := ch_17 W hi (k := 0) (by omega) w; omega) (aln_arg W hi (k := 0) (by omega) (by omega))
    have X1 := Ent_v e1' (fun w => by have := ch_17 W hi (k := 1) (by omega) w; omega) (aln_arg W hi (k := 1) (by omega) (by omega))
    have a0 := (agI_w W hi (k := 0) (by omega)).2
    have a1 := (agI_w W hi (k := 1) (by omega)).2
    have Y0 := (VX_w K (L := [(4, some 10)]) (by decide) (by omega) g1 X0).1
    have Y1 := (VX_w K (L := [(4, some 10)]) (by decide) (by omega) g1 X1).1
    have S0 := K1.2.2.1.1 (T - 2) (by omega)
    have S1 := K1.2.2.1.1 (T - 1) (by omega)
    refine ⟨q, rfl, (g1.1 q (by rw [r2]; decide)).1.trans r2, b 22, C1.2.1, C1.2.2.1, ?_⟩
    rw [t1, w32e (x := (T : Int) - 1 - 1) (by omega) (by omega), C1.2.2.2, qi, show (T : Int) - 1 - 1 = ((T - 2 : Nat) : Int) by omega, show (T : Int) - 1 = ((T - 1 : Nat) : Int) by omega, S0.1, S1.1]
    refine ⟨by omega, by omega, by omega, by omega, ?_⟩
    refine k9_sign C1.1 Y0 Y1 (EvC_V H (by omega)) (EvC_V H (by omega)) (fun w => by have := K.2.2.1.2.1 _ _ (by omega) (by omega) w; omega) (fun w => by have := K.2.2.1.2.2 _ _ (by omega) (by omega) w; omega) (by omega) c12 (fun y k1 k2 k3 => ?_)
    have fT : FrZ (WkT b sv sb (T - 2)) z1 y := FrZ_mono k3 (fun _ _ _ w => w.elim (fun w => Or.inr ⟨T - 2, ⟨Nat.le_refl _, by omega⟩, w⟩) (fun w => Or.inr ⟨T - 1, ⟨by omega, by omega⟩, w⟩))
    refine fin y (FrZ_tr (wt_w (by decide) g1) fT) (Ent_o ?_ k2 (by omega)) ?_
    · rw [EvA_i W hi, st_12 c12]; exact k1
    · have k41 : zK z1 (b 4) ≠ 0 := by rw [C1.1]; decide
      have s0 := K.2.2.2.2.1 (T - 2) (by omega) 4 (by decide)
      have s1 := K.2.2.2.2.1 (T - 1) (by omega) 4 (by decide)
      have : zI y (b 4) 10 = zI z1 (b 4) 10 := by
        refine (k3.2 (b 4) 10 k41 ?_).1
        rintro ((w | w) | (w | w))
        · exact s0.1 w.1.symm
        · exact s0.2 w.symm
        · exact s1.1 w.1.symm
        · exact s1.2 w.symm
      rw [this, t1]; show (T : Int) - 1 = ((T - 2 + 1 : Nat) : Int); omega
  rw [if_pos (by omega)]
  -- a call
  generalize hN : (ps.getD i pd0).2.1 = N at *
  obtain ⟨s, hs⟩ : ∃ s : Nat, s = T - N.toNat := ⟨_, rfl⟩
  rw [← hs] at fin
  have sN : s + N.toNat = T := by omega
  rw [w32e (x := (T : Int) - N) (by omega) (by omega), w32e (x := (T : Int) - N + 1) (by omega) (by omega), show (T : Int) - N + 1 = (s : Int) + 1 by omega]
  intro z1 e1
  have g1 : FrZ (WB b [(4, some 10)]) z z1 := by rw [e1]; exact FrZ_wI FrZ_rf (Or.inl (WB_i (by decide) (by decide)))
  have fW : FrZ (WkW b sv sb) z z1 := wk_w (by decide) g1
  have H1 := EvC_wk H fW
  have K1 := H1.1
  have C1 := CX_4 K1
  have k41 : zK z1 (b 4) ≠ 0 := by rw [C1.1]; decide
  have t1 : zI z1 (b 4) 10 = (s : Int) + 1 := by rw [e1, zI_wI, if_pos ⟨rfl, rfl⟩]
  have qi : ∀ j, zI z1 q j = zI z q j := fun j => by rw [e1, zI_wI, if_neg (fun w => qb w.1)]
  have kq : zK z1 q = 5 := (g1.1 q (by rw [r2]; decide)).1.trans r2
  have E1 : ∀ k : Nat, k < N.toNat → Ent z1 sv sb E V ps (s + k) (agI ps i k) := fun k hk => by
    have e := Ea k hk
    rw [← hs] at e
    refine ⟨fun c => (VX_w K (L := [(4, some 10)]) (by decide) (by omega) g1 (e.1 c)).1, fun c => ?_⟩
    obtain ⟨x1, x2⟩ := e.2 c
    obtain ⟨y1, y2⟩ := VX_w K (L := [(4, some 10)]) (by decide) (by omega) g1 x1
    exact ⟨y1, y2.trans x2⟩
  have T1 : FrZ (WkT b sv sb s) z z1 := wt_w (by decide) g1
  refine ⟨q, rfl, kq, ?_⟩
  rw [qi, qi, r3, r4, t1, w32e (x := (s : Int) + 1 - 1) (by omega) (by omega), show (s : Int) + 1 - 1 = (s : Int) by omega]
  have fin2 : ∀ y, VX y (sv s) (sb s) (EvA E V ps i) → zI y (sv s) 3 = 0 → FrZ (WkU b sv sb s) z1 y → F_X9_workCell_247 (b 4) cell (i : Int) y Q := fun y k1 k2 k3 => by
    refine fin y (FrZ_tr T1 (wu_T k3)) (Ent_o k1 k2 (by have := wa.2.2.2.2.1; omega)) ?_
    rw [wu_10 K1 k3, t1]; omega
  have c198 : ¬ (19 ≤ (ps.getD i pd0).1 ∧ (ps.getD i pd0).1 ≤ 24) → F_X9_workCell_198 (b 4) cell (i : Int) (some q) z1 Q := fun c24 => by
    unfold F_X9_workCell_198
    refine ⟨q, rfl, kq, ?_⟩
    rw [qi, qi, r3, r4, t1, w32e (x := (s : Int) + 1 - 1) (by omega) (by omega), show (s : Int) + 1 - 1 = (s : Int) by omega]
    unfold F_X9_takesPlace F_X9_takesPlace_30 F_X9_takesPlace_35
    rw [← hN] at E1 ⊢
    have yes : ((29 ≤ (ps.getD i pd0).1 ∧ (ps.getD i pd0).1 ≤ 30) ∨ 33 ≤ (ps.getD i pd0).1) → (if (1 : Int) = 0 then (zK z1 (b 4) = 10 ∧ F_X9_call (b 4) (ps.getD i pd0).1 (s : Int) (ps.getD i pd0).2.1 z1 (fun z_244 => F_X9_workCell_247 (b 4) cell (i : Int) z_244 Q)) else (zK z1 (b 4) = 10 ∧ F_X9_callOfPlace (b 4) (ps.getD i pd0).1 (s : Int) (ps.getD i pd0).2.1 z1 (fun z_223 => F_X9_workCell_247 (b 4) cell (i : Int) z_223 Q))) := fun hop => by
      rw [if_neg (by decide)]
      exact ⟨C1.1, k9_cop H1 hi hop (by omega) E1 fin2⟩
    by_cases d1 : (ps.getD i pd0).1 = 29
    · rw [if_pos d1]; exact ⟨Or.inr rfl, yes (by omega)⟩
    rw [if_neg d1]
    by_cases d2 : (ps.getD i pd0).1 = 30
    · rw [if_pos d2]; exact ⟨Or.inr rfl, yes (by omega)⟩
    rw [if_neg d2]
    by_cases d3 : (ps.getD i pd0).1 = 33
    · rw [if_pos d3]; exact ⟨Or.inr rfl, yes (by omega)⟩
    rw [if_neg d3]
    by_cases d4 : (ps.getD i pd0).1 = 34
    · rw [if_pos d4]; exact ⟨Or.inr rfl, yes (by omega)⟩
    rw [if_neg d4]
    by_cases d5 : (ps.getD i pd0).1 = 35
    · rw [if_pos d5]; exact ⟨Or.inr rfl, yes (by omega)⟩
    rw [if_neg d5]
    refine ⟨Or.inl rfl, ?_⟩
    show (if (0 : Int) = 0 then _ else _)
    rw [if_pos rfl]
    exact ⟨C1.1, k9_callS H1 hi (by have := wa.2.2.2.2.1; omega) (by omega) E1 fin2⟩
  by_cases c19 : (ps.getD i pd0).1 < 19
  · rw [if_pos c19]; exact c198 (by omega)
  rw [if_neg c19]
  by_cases c24 : 24 < (ps.getD i pd0).1
  · rw [if_pos c24]; exact c198 (by omega)
  · rw [if_neg c24]
    rw [← hN] at E1 ⊢
    exact k9_gather H1 hi (by omega) (by omega) E1 fin2
/-- a formula is worked out; its value goes to the Value x -/
def WcW (b sv sb : Nat → Nat) (x xb : Nat) (a : Nat) (i : Int) : Prop := WkW b sv sb a i ∨ WB b [(4, some 9)] a i ∨ VW x xb a i
theorem k9_cell {cell : Int} {sh va x xb xa ca : Nat} {l : Lit} {P : Z → Prop} (K : WkC z b J sv sb) (h8 : zO z (b 4) 8 = some sh) (k7 : zK z sh = 7) (h2 : zO z sh 2 = some xa) (kx : zK z xa = 19) (i0 : 0 ≤ cell) (i1 : cell < zN z xa) (ox : zO z xa cell = some ca) (kc : zK z ca = 2) (oc : zO z ca 2 = some pa) (F : FoC z J pa ps) (En : EnL z b J E V ps) (W : WfV ps) (n1 : 1 ≤ ps.length) (n60 : ps.length ≤ 60) (h3 : zO z sh 3 = some va) (kv : zK z va = 22) (iv : cell < zN z va) (ov : zO z va cell = some x) (B : VlB z x xb) (ns : ∀ m : Nat, m < 60 → x ≠ sv m ∧ xb ≠ sb m) (p : ∀ y, VX y x xb (finL (EvA E V ps (ps.length - 1))) → FrZ (WcW b sv sb x xb) z y → P y) : F_X9_workCell (b 4) cell z P := by
  have C := CX_4 K
  have k4 : zK z (b 4) ≠ 0 := by rw [C.1]; decide
  unfold F_X9_workCell
  refine ⟨C.1, sh, h8, k7, xa, h2, kx, i0, i1, ca, ox, kc, fun z1 e1 z2 e2 => ?_⟩
  rw [oc] at e1
  have f1 : FrZ (WB b [(4, some 9)]) z z1 := by rw [e1]; exact FrZ_wO FrZ_rf (Or.inl (WB_i (by decide) (by decide)))
  have nJ : ∀ a i, J a → ¬ WB b [(4, some 9)] a i := fun a i ha w => (K.2.1 a ha).2.2.2 4 (by decide) (WB_4 (by decide) w).1
  have n4 : ∀ i : Int, i ≠ 9 → ¬ WB b [(4, some 9)] (b 4) i := fun i hi w => by
    obtain ⟨t, h1, -, h3⟩ := (WB_4 (by decide) w).2
    rw [List.mem_singleton] at h1
    rw [h1] at h3
    rcases h3 with h3 | h3
    · cases h3
    · injection h3 with h3; omega
  have nb : ∀ {a : Nat}, a ≠ b 4 → ∀ i, ¬ WB b [(4, some 9)] a i := fun ha i w => ha (WB_4 (by decide) w).1
  have kb : ∀ k, k < 35 → zK z (b k) ≠ 0 := fun k hk => by rw [(K.1.1 k hk).1]; exact (ckz_k k hk).2.2
  have n74 : ∀ {a : Nat}, zK z a ≠ 10 → a ≠ b 4 := fun h w => h (by rw [w]; exact C.1)
  have K1 : WkC z1 b J sv sb := by
    have c2 : CWz z1 b := by
      refine ⟨fun k hk => by rw [(f1.1 (b k) (kb k hk)).1, (f1.1 (b k) (kb k hk)).2]; exact K.1.1 k hk, K.1.2.1, fun t ht => ?_⟩
      rw [(f1.2 (b t.1) t.2.1 (kb t.1 (crz_b t ht)) (fun w => ?_)).2.2]
      · exact K.1.2.2 t ht
      · have e := K.1.2.1 t.1 4 (crz_b t ht) (by decide) (WB_4 (by decide) w).1
        rw [e] at w
        exact n4 t.2.1 (by have := crz_9 t ht e; omega) w
    refine ⟨c2, Frz_fr K.2.1 f1, ⟨fun m hm => ?_, K.2.2.1.2⟩, K.2.2.2.1, K.2.2.2.2.1, WzN_fr K.2.1 f1 K.2.2.2.2.2.1, VlS_fr K.2.2.2.2.2.2 f1 ?_ ?_ ?_ ?_⟩
    · obtain ⟨o, B1, B2, B3, B4⟩ := K.2.2.1.1 m hm
      have q := K.2.2.2.2.1 m hm 4 (by decide)
      refine ⟨(f1.2 (b 22) m (kb 22 (by decide)) (nb (fun w => absurd (K.1.2.1 22 4 (by decide) (by decide) w) (by decide)) _)).2.2.trans o, (f1.1 _ (by rw [B1]; decide)).1.trans B1, (f1.2 _ 0 (by rw [B1]; decide) (nb q.1 0)).2.2.trans B2, (f1.1 _ (by rw [B3]; decide)).1.trans B3, (f1.1 _ (by rw [B3]; decide)).2.trans B4⟩
    · exact nb (fun w => absurd (K.1.2.1 23 4 (by decide) (by decide) w) (by decide)) _
    · exact nb (fun w => absurd (K.1.2.1 23 4 (by decide) (by decide) w) (by decide)) _
    · exact nb (fun w => absurd (K.1.2.1 23 4 (by decide) (by decide) w) (by decide)) _
    · exact fun i => nb (fun w => absurd (K.1.2.1 24 4 (by decide) (by decide) w) (by decide)) _
  have s7 : ∀ {a : Nat} {h : Sh}, ShC z J a h → ShC z1 J a h := fun hs => ShC_fr f1 nJ (fun a i ha w => absurd w (nb (n74 (by rw [ha]; decide)) i)) hs
  have cv : ∀ {a : Nat} {h : Sh} {r c : Int} {l : Lit}, ShC z J a h → CvL z b J a h r c l → CvL z1 b J a h r c l := fun {a h r c l} hs H => by
    obtain ⟨g1, g2⟩ := H
    refine ⟨g1, ?_⟩
    have k7' := ShC_7 hs
    match e : h.2.2.2 r c with
    | none => rw [e] at g2; exact g2
    | some (kd, li, q) =>
      rw [e] at g2
      simp only at g2 ⊢
      by_cases c5 : kd = 5
      · rw [if_pos c5] at g2 ⊢
        obtain ⟨va, x, xb, ⟨v1, v2, v3, v4⟩, v5, v6, v7⟩ := g2
        have kv : zK z va ≠ 0 := by rw [v3]; decide
        refine ⟨va, x, xb, ⟨(f1.2 a 3 (by rw [k7']; decide) (nb (n74 (by rw [k7']; decide)) 3)).2.2.trans v1, v2, (f1.1 va kv).1.trans v3, by rw [(f1.1 va kv).2]; exact v4⟩, (f1.2 va _ kv (v2.elim (fun w => nJ va _ w) (fun w => nb (fun e => absurd (K.1.2.1 8 4 (by decide) (by decide) (w.symm.trans e)) (by decide)) _))).2.2.trans v5, v6, VlS_fr v7.1 f1 (nJ x 0 v6.1) (nJ x 1 v6.1) (nJ x 2 v6.1) (fun i => nJ xb i v6.2), ?_⟩
        rw [(f1.1 xb (by rw [v7.1.1.2.2.2]; decide)).2]; exact v7.2
      · rw [if_neg c5] at g2 ⊢; exact g2
  have En1 : EnL z1 b J E V ps := by
    intro j hj c
    obtain ⟨sh', g1, g2, g3, g4⟩ := En j hj c
    refine ⟨sh', ?_, s7 g2, fun a1 a2 r q a3 => cv g2 (g3 a1 a2 r q a3), fun a1 t q l r a2 x w x0 x1 y0 y1 => cv g2 (g4 a1 t q l r a2 x w x0 x1 y0 y1)⟩
    unfold ShV at g1 ⊢
    by_cases cv : (ps.getD j pd0).2.2.2.2.2 < 0
    · rw [if_pos cv] at g1 ⊢
      exact (f1.2 (b 4) 8 k4 (n4 8 (by decide))).2.2.trans g1
    · rw [if_neg cv] at g1 ⊢
      exact ⟨g1.1, (f1.2 (b 18) _ (kb 18 (by decide)) (nb (fun w => absurd (K.1.2.1 18 4 (by decide) (by decide) w) (by decide)) _)).2.2.trans g1.2⟩
  have F1 : FoC z1 J pa ps := by
    obtain ⟨g1, g2, g3, g4⟩ := F
    have kp : zK z pa ≠ 0 := by rw [g2]; decide
    refine ⟨g1, (f1.1 pa kp).1.trans g2, (f1.1 pa kp).2.trans g3, fun i hi => ?_⟩
    obtain ⟨q, q1, q2⟩ := g4 i hi
    exact ⟨q, (f1.2 pa i kp (nJ pa i g1)).2.2.trans q1, PrtC_fr f1 nJ q2⟩
  have H1 : EvC z1 b J sv sb E V ps pa := ⟨K1, by rw [e1, zO_wO, if_pos ⟨rfl, rfl⟩], F1, En1, W, n1, n60⟩
  have f2 : FrZ (WB b [(4, some 10)]) z1 z2 := by rw [e2]; exact FrZ_wI FrZ_rf (Or.inl (WB_i (by decide) (by decide)))
  have H2 := EvC_wk H1 (wk_w (by decide) f2)
  have t2 : zI z2 (b 4) 10 = 0 := by rw [e2, zI_wI, if_pos ⟨rfl, rfl⟩]
  have up1 : FrZ (WcW b sv sb x xb) z z1 := FrZ_mono f1 (fun _ _ _ w => Or.inr (Or.inl w))
  have up2 : ∀ {u v : Z}, FrZ (WkW b sv sb) u v → FrZ (WcW b sv sb x xb) u v := fun f => FrZ_mono f (fun _ _ _ w => Or.inl w)
  have f02 : FrZ (WcW b sv sb x xb) z z2 := FrZ_tr up1 (up2 (wk_w (by decide) f2))
  unfold F_X9_workCell_23
  refine lp_I (fun q => ∃ i T : Nat, (q.1 = (i : Int) ∧ i ≤ ps.length) ∧ FrZ (WkW b sv sb) z2 q.2 ∧ StE q.2 sv sb E V ps i T ∧ zI q.2 (b 4) 10 = (T : Int)) (fun q => ((ps.length : Int) - q.1).toNat) ?_ (0, z2) ⟨0, 0, ⟨rfl, Nat.zero_le _⟩, FrZ_rf, ⟨Nat.le_refl _, rfl, fun m hm => absurd hm (Nat.not_lt_zero _)⟩, t2⟩
  rintro G ⟨qi, w⟩ ⟨i, T, ⟨ei, hi⟩, f, S, t10⟩ ih
  simp only at ei f S t10
  subst ei
  have Hw := EvC_wk H2 f
  have Kw := Hw.1
  have Cw := CX_4 Kw
  show L_X9_workCell_23 (b 4) cell (i : Int) w _
  by_cases ci : i < ps.length
  · refine k9_step Hw ci S t10 (fun y T' fy Sy ty => ?_)
    exact ih ((i : Int) + 1, y) ⟨i + 1, T', ⟨by omega, by omega⟩, FrZ_tr f fy, Sy, ty⟩ (by show ((ps.length : Int) - ((i : Int) + 1)).toNat < ((ps.length : Int) - (i : Int)).toNat; omega)
  · have ii : i = ps.length := by omega
    subst ii
    unfold L_X9_workCell_23
    refine ⟨Cw.1, pa, Hw.2.1, Hw.2.2.1.2.1, ?_⟩
    rw [Hw.2.2.1.2.2.1, if_pos (Int.le_refl _)]
    -- one slot is left
    have sp := W.1.2.1
    have w1 : wlk (spnL ps) 1 ((ps.length : Int) - 1) = -1 := by
      show ((ps.length : Int) - 1) - (spnL ps).getD ((ps.length : Int) - 1).toNat 0 = -1
      rw [show ((ps.length : Int) - 1).toNat = ps.length - 1 by omega, sp]; omega
    have T1 : T = 1 := by
      obtain ⟨s1, s2, s3⟩ := S
      by_cases c : T = 0
      · rw [c] at s2
        have : (ps.length : Int) - 1 = -1 := s2
        omega
      · by_cases c1 : 1 < T
        · have := (s3 1 c1).1
          omega
        · omega
    subst T1
    have e0 := (S.2.2 0 (by decide)).2
    have e0 : Ent w sv sb E V ps 0 ((ps.length : Int) - 1).toNat := e0
    rw [show ((ps.length : Int) - 1).toNat = ps.length - 1 by omega] at e0
    have X := Ent_v e0 W.1.2.2 (aln_last n1)
    have oV := EvC_V Hw (i := ps.length - 1) (by omega)
    have S0 := Kw.2.2.1.1 0 (by decide)
    have S0o : zO w (b 22) 0 = some (sv 0) := S0.1
    show zK w (b 4) = 10 ∧ _
    refine ⟨Cw.1, b 22, Cw.2.1, Cw.2.2.1, by omega, by rw [Cw.2.2.2]; omega, sv 0, S0o, S0.2.1, ?_⟩
    rw [X.1.1.2.1, S0o]
    have nk : ∀ {a : Nat}, zK z a ≠ 10 → zK z a ≠ 9 → zK z a ≠ 14 → ∀ i, ¬ WcW b sv sb x xb a i := fun {a} a1 a2 a3 i => by
      rintro (w | w | w)
      · exact wk_k K a1 a2 a3 i w
      · exact nb (n74 a1) i w
      · exact VW_k B a2 a3 i w
    have take : ∀ u, FrZ (WkW b sv sb) z2 u → VX u (sv 0) (sb 0) (finL (EvA E V ps (ps.length - 1))) → F_X9_workCell_273 (b 4) cell (some (sv 0)) u P := fun u fu Xu => by
      have f0u : FrZ (WcW b sv sb x xb) z u := FrZ_tr f02 (up2 fu)
      have Ku := WkC_fr H2.1 fu
      have h8u : zO u (b 4) 8 = some sh := by
        refine (f0u.2 (b 4) 8 k4 ?_).2.2.trans h8
        rintro (w | w | w)
        · exact wk_4 K (by decide) w
        · exact n4 8 (by decide) w
        · exact VW_k B (by rw [C.1]; decide) (by rw [C.1]; decide) 8 w
      have xn : x ≠ b 4 := n74 (by rw [B.1]; decide)
      have bn : xb ≠ b 4 := n74 (by rw [B.2.2.1]; decide)
      have x0 : ¬ WcW b sv sb x xb x 0 := by
        rintro (w | w | w)
        · rcases w with w | ⟨m, hm, w⟩
          · exact xn (WB_4 (by decide) w).1
          · rcases w with ⟨w, -⟩ | w
            · exact (ns m hm).1 w
            · have := (K.2.2.1.1 m hm).2.2.2.1
              rw [← w, B.1] at this; cases this
        · exact nb xn 0 w
        · rcases w with ⟨-, w⟩ | w
          · omega
          · exact VlB_ne B w
      have Bu : VlB u x xb := ⟨(f0u.1 x (by rw [B.1]; decide)).1.trans B.1, (f0u.2 x 0 (by rw [B.1]; decide) x0).2.2.trans B.2.1, (f0u.1 xb (by rw [B.2.2.1]; decide)).1.trans B.2.2.1, (f0u.1 xb (by rw [B.2.2.1]; decide)).2.trans B.2.2.2⟩
      unfold F_X9_workCell_273
      refine ⟨cK Ku.1 4 rfl rfl, sh, h8u, (f0u.1 sh (by rw [k7]; decide)).1.trans k7, va, (f0u.2 sh 3 (by rw [k7]; decide) (nk (by rw [k7]; decide) (by rw [k7]; decide) (by rw [k7]; decide) 3)).2.2.trans h3, (f0u.1 va (by rw [kv]; decide)).1.trans kv, i0, by rw [(f0u.1 va (by rw [kv]; decide)).2]; exact iv, x, (f0u.2 va cell (by rw [kv]; decide) (nk (by rw [kv]; decide) (by rw [kv]; decide) (by rw [kv]; decide) cell)).2.2.trans ov, Bu.1, ?_⟩
      refine k_take Bu Xu.1 (fun _ => ⟨(VOk_b (VOk_fin oV)).1, by rw [Xu.2]; decide⟩) (fun v g1 g2 g3 => p v (VX_of Bu g3 g1) (FrZ_tr f0u (FrZ_mono g3 (fun _ _ _ w => Or.inr (Or.inr w)))))
    by_cases c0 : (EvA E V ps (ps.length - 1)).1 = 0
    · rw [if_pos c0]
      refine k_set S0.2 (by decide) (fun u g1 g2 g3 => take u (FrZ_tr f (wk_m (by decide) g3)) ?_)
      unfold finL
      rw [if_pos c0]
      exact VX_of S0.2 g3 g1
    · rw [if_neg c0]
      refine take w f ?_
      unfold finL
      rw [if_neg c0]
      exact X
end Wp
