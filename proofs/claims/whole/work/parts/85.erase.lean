/-! ===== erase of the reference ===== -/
theorem Bd_setW {S : SS} {s : Sh} (hB : Bd S) (hs : ShB s) : Bd (setW S s) := ⟨hB.1, hB.2.1, hB.2.2.1, ⟨hs, hB.2.2.2.1.2⟩, hB.2.2.2.2⟩
theorem Bd_step0 {S : SS} (hB : Bd S) : Bd (pStep0 S) := by
  obtain ⟨h1, h2, h3, ⟨k1, ⟨k2, k3, k4⟩, k5, k6⟩, h5⟩ := hB
  refine ⟨h1, h2, h3, ?_, h5⟩
  unfold pStep0
  dsimp only
  split
  · refine ⟨k1, by dsimp only; omega, fun k a c => ?_, fun k a c => absurd c (by dsimp only; omega)⟩
    dsimp only at c ⊢
    split
    · exact k1
    · exact k5 k a (by omega)
  · refine ⟨k1, by dsimp only; omega, fun k a c => ?_, fun k a c => absurd c (by dsimp only; omega)⟩
    dsimp only at c ⊢
    split
    · exact k1
    · exact k5 (k + 1) (by omega) (by omega)
theorem pStep0_w (S : SS) : (pStep0 S).2.2.2.1.1 = S.2.2.2.1.1 := by unfold pStep0; dsimp only; split <;> rfl
theorem setW_self (S : SS) : setW S S.2.2.2.1.1 = S := rfl
theorem ContM_0 {u : Mu} {q : Int} {c : Cont} (h : ContM u q c) : (q = 0 ∧ isN c = 0) ∨ (q ≠ 0 ∧ isN c = 1) := by
  match c, h with
  | none, h => exact Or.inl ⟨h, rfl⟩
  | some (k, l, ps), h =>
    refine Or.inr ⟨?_, rfl⟩
    unfold ContM at h
    simp only at h
    split at h
    · have := h.1.1; omega
    · have := h.1.1; omega
def wEr : WR := [(0, some 0), (0, some 15), (0, some 16), (0, some 17), (0, some 65), (1, none), (2, none), (3, none), (4, none), (5, none)]
theorem i_erase {u : Mu} {N : Int} {S : SS} {r c r2 c2 : Int} {P : Int → Mu → Prop} (hB : Bd S) (R : RM u N S) (h : ∀ v, RM v N (pErase r c r2 c2 S).2.2 → FrM wUm u v → (mI v 0 0 = ((pErase r c r2 c2 S).1 : Int) ∧ Q65 u v S (pErase r c r2 c2 S).2.2) → P (pErase r c r2 c2 S).2.1 v) : F_X12_erase r c r2 c2 u P := by
  unfold F_X12_erase F_X12_erase_28 F_X12_erase_45
  rintro _ rfl
  have R' := RM_thr (x := 0) hB R
  have f : FrM wUm u (uI u 0 0 0) := FrM_uI FrM_rf (wHas_i (by decide))
  have z0 : mI (uI u 0 0 0) 0 0 = 0 := by rw [mI_uI, if_pos ⟨rfl, rfl⟩]
  generalize hv : uI u 0 0 0 = v at R' f z0 ⊢
  unfold pErase at h
  have bw := hB.2.2.2.1.1
  obtain ⟨⟨b1, b2⟩, b3, b4⟩ := id bw
  obtain ⟨m1, m2⟩ := R'.2.2.2.2.1.1.1
  have th1 : P 0 (uI v 0 0 1) ∨ True := Or.inr trivial
  refine i_isCell (by omega) (by omega) ?_
  rw [m1, m2]
  by_cases e1 : hasS S.2.2.2.1.1 r c
  · rw [show tb ((1 ≤ r ∧ r ≤ S.2.2.2.1.1.1.1) ∧ 1 ≤ c ∧ c ≤ S.2.2.2.1.1.1.2) = 1 by rw [tb, if_pos e1], if_neg (by decide)]
    refine i_isCell (by omega) (by omega) ?_
    rw [m1, m2]
    by_cases e2 : hasS S.2.2.2.1.1 r2 c2
    · rw [show tb ((1 ≤ r2 ∧ r2 ≤ S.2.2.2.1.1.1.1) ∧ 1 ≤ c2 ∧ c2 ≤ S.2.2.2.1.1.1.2) = 1 by rw [tb, if_pos e2], if_neg (by decide)]
      rw [if_pos ⟨e1, e2⟩] at h
      by_cases e3 : r2 < r
      · rw [if_pos e3]; rw [if_neg (by omega)] at h
        exact i_throwing (h _ (RM_thr hB R') (FrM_uI f (wHas_i (by decide))) ⟨by rw [mI_uI, if_pos ⟨rfl, rfl⟩]; rfl, by rw [← hv]; exact Q65_t⟩)
      · rw [if_neg e3]
        by_cases e4 : c ≤ c2
        · rw [if_pos e4]; rw [if_pos (by omega)] at h
          refine i_step hB R' (fun u1 kept R1 f1 z1 _ _ => ?_)
          obtain ⟨⟨r0, r1⟩, c0, c1⟩ := e1
          obtain ⟨⟨r20, r21⟩, c20, c21⟩ := e2
          have hadB : 0 ≤ hadS S.2.2.2.1.1 r c r2 c2 ∧ hadS S.2.2.2.1.1 r c r2 c2 ≤ ((r2 + 1 - r).toNat : Int) * 10 := by
            unfold hadS
            refine sumN_b (fun i => ?_) _ _
            have := rowS_b S.2.2.2.1.1 c c2 i
            exact ⟨this.1, by have := this.2; omega⟩
          have hB0 := Bd_step0 hB
          have fu1 : FrM wUm u u1 := FrM_tr f f1
          unfold F_X12_erase_62
          refine lp_I (fun t => (r ≤ t.2.1 ∧ t.2.1 ≤ r2 + 1) ∧ 0 ≤ t.1 ∧ t.1 + sumN (fun i => sumN (fun j => isN (S.2.2.2.1.1.2.2.2 (i - 1) (j - 1))) (c2 + 1 - c).toNat c) (r2 + 1 - t.2.1).toNat t.2.1 = hadS S.2.2.2.1.1 r c r2 c2 ∧ RM t.2.2 N (setW (pStep0 S) (ersS S.2.2.2.1.1 (rcu r c c2 t.2.1 c))) ∧ FrM wUm u t.2.2 ∧ mI t.2.2 0 0 = 0 ∧ mI t.2.2 0 65 = 0) (fun t => (r2 + 1 - t.2.1).toNat) ?_ (0, r, u1) ⟨⟨Int.le_refl _, by show r ≤ r2 + 1; omega⟩, by show (0 : Int) ≤ 0; decide, by show (0 : Int) + sumN _ (r2 + 1 - r).toNat r = _; unfold hadS; omega, ?_, fu1, z1.1.trans z0, z1.2⟩
          · rintro G ⟨t6, t7, y⟩ ⟨⟨t70, t71⟩, t60, tS, NY, fy, zy⟩ ih
            simp only at t70 t71 t60 tS NY fy zy
            unfold L_X12_erase_62
            dsimp only
            by_cases q1 : r2 < t7
            · rw [if_pos q1]
              have et : t7 = r2 + 1 := by omega
              subst et
              rw [show (r2 + 1 - (r2 + 1)).toNat = 0 by omega, sumN] at tS
              show P t6 y
              rw [show t6 = hadS S.2.2.2.1.1 r c r2 c2 by omega]
              refine h y ?_ fy ⟨zy.1, Or.inl zy.2⟩
              have eF : rcu r c c2 (r2 + 1) c = rct r c r2 c2 := by
                funext a d; unfold rcu rct; exact decide_eq_decide.mpr (by omega)
              rw [eF] at NY; exact NY
            · rw [if_neg q1]
              rw [show (r2 + 1 - t7).toNat = (r2 + 1 - (t7 + 1)).toNat + 1 by omega, sumN] at tS
              have rest2 : 0 ≤ sumN (fun i => sumN (fun j => isN (S.2.2.2.1.1.2.2.2 (i - 1) (j - 1))) (c2 + 1 - c).toNat c) (r2 + 1 - (t7 + 1)).toNat (t7 + 1) := (sumN_b (B := 10) (fun i => ⟨(rowS_b S.2.2.2.1.1 c c2 i).1, by have := (rowS_b S.2.2.2.1.1 c c2 i).2; omega⟩) _ _).1
              generalize hrest : sumN (fun i => sumN (fun j => isN (S.2.2.2.1.1.2.2.2 (i - 1) (j - 1))) (c2 + 1 - c).toNat c) (r2 + 1 - (t7 + 1)).toNat (t7 + 1) = rest at tS rest2
              unfold F_X12_erase_71
              refine lp_I (fun p => (c ≤ p.2.1 ∧ p.2.1 ≤ c2 + 1) ∧ 0 ≤ p.1 ∧ p.1 + sumN (fun j => isN (S.2.2.2.1.1.2.2.2 (t7 - 1) (j - 1))) (c2 + 1 - p.2.1).toNat p.2.1 + rest = hadS S.2.2.2.1.1 r c r2 c2 ∧ RM p.2.2 N (setW (pStep0 S) (ersS S.2.2.2.1.1 (rcu r c c2 t7 p.2.1))) ∧ FrM wUm u p.2.2 ∧ mI p.2.2 0 0 = 0 ∧ mI p.2.2 0 65 = 0) (fun p => (c2 + 1 - p.2.1).toNat) ?_ (t6, c, y) ⟨⟨Int.le_refl _, by show c ≤ c2 + 1; omega⟩, t60, by show t6 + sumN _ (c2 + 1 - c).toNat c + rest = _; omega, NY, fy, zy⟩
              rintro G2 ⟨p6, p8, w⟩ ⟨⟨p80, p81⟩, p60, pS, NW, fw, zw⟩ ih2
              simp only at p80 p81 p60 pS NW fw zw
              unfold L_X12_erase_71 F_X12_erase_98
              dsimp only
              by_cases q2 : c2 < p8
              · rw [if_pos q2]
                have ep : p8 = c2 + 1 := by omega
                subst ep
                rw [show (c2 + 1 - (c2 + 1)).toNat = 0 by omega, sumN] at pS
                show G (p6, w32 (t7 + 1), w)
                rw [w32e (by omega) (by omega)]
                refine ih (p6, t7 + 1, w) ⟨⟨by show r ≤ t7 + 1; omega, by show t7 + 1 ≤ r2 + 1; omega⟩, p60, by show p6 + sumN _ (r2 + 1 - (t7 + 1)).toNat (t7 + 1) = _; rw [hrest]; omega, ?_, fw, zw⟩ (by show (r2 + 1 - (t7 + 1)).toNat < (r2 + 1 - t7).toNat; omega)
                have eF : rcu r c c2 t7 (c2 + 1) = rcu r c c2 (t7 + 1) c := by
                  funext a d; unfold rcu; exact decide_eq_decide.mpr (by omega)
                rw [eF] at NW; exact NW
              · rw [if_neg q2]
                rw [show (c2 + 1 - p8).toNat = (c2 + 1 - (p8 + 1)).toNat + 1 by omega, sumN] at pS
                have cB := (sumN_b (g := fun j => isN (S.2.2.2.1.1.2.2.2 (t7 - 1) (j - 1))) (B := 1) (fun k => isN_b _) (c2 + 1 - (p8 + 1)).toNat (p8 + 1)).1
                have iB := isN_b (S.2.2.2.1.1.2.2.2 (t7 - 1) (p8 - 1))
                refine i_cellAt (by omega) (by omega) (by omega) (by omega) (by omega) (by omega) ?_
                have cell := NW.2.2.2.2.1.1.2.2.2 (t7 - 1) (p8 - 1) (by omega) (by show t7 - 1 < S.2.2.2.1.1.1.1; omega) (by omega) (by show p8 - 1 < S.2.2.2.1.1.1.2; omega)
                have eCell : (setW (pStep0 S) (ersS S.2.2.2.1.1 (rcu r c c2 t7 p8))).2.2.2.1.1.2.2.2 (t7 - 1) (p8 - 1) = S.2.2.2.1.1.2.2.2 (t7 - 1) (p8 - 1) := by
                  show (if rcu r c c2 t7 p8 (t7 - 1 + 1) (p8 - 1 + 1) = true then none else S.2.2.2.1.1.2.2.2 (t7 - 1) (p8 - 1)) = _
                  rw [if_neg (by unfold rcu; rw [decide_eq_true_iff]; omega)]
                rw [eCell] at cell
                have put : ∀ k, k = isN (S.2.2.2.1.1.2.2.2 (t7 - 1) (p8 - 1)) → F_X12_setCell t7 p8 0 w (fun u_107 => G2 (w32 (p6 + k), w32 (p8 + 1), u_107)) := by
                  intro k hk
                  refine i_setCell (by omega) (by omega) (by omega) (by omega) ?_
                  rw [w32e (x := p6 + k) (by omega) (by omega), w32e (x := p8 + 1) (by omega) (by omega)]
                  have R2 := RM_cell (t := none) (x := 0) (r := t7 - 1) (c := p8 - 1) (Bd_setW hB0 (s := ersS S.2.2.2.1.1 (rcu r c c2 t7 p8)) bw) NW (by omega) (by omega) rfl
                  refine ih2 (p6 + k, p8 + 1, _) ⟨⟨by show c ≤ p8 + 1; omega, by show p8 + 1 ≤ c2 + 1; omega⟩, by show 0 ≤ p6 + k; omega, by show p6 + k + sumN _ (c2 + 1 - (p8 + 1)).toNat (p8 + 1) + rest = _; rw [hk]; omega, ?_, FrM_uI fw (wHas_a (by decide)), by show mI (uI w _ _ _) 0 0 = 0; rw [mI_uI, if_neg (by omega)]; exact zw.1, by show mI (uI w _ _ _) 0 65 = 0; rw [mI_uI, if_neg (by omega)]; exact zw.2⟩ (by show (c2 + 1 - (p8 + 1)).toNat < (c2 + 1 - p8).toNat; omega)
                  have eF : setW (setW (pStep0 S) (ersS S.2.2.2.1.1 (rcu r c c2 t7 p8))) (updS (setW (pStep0 S) (ersS S.2.2.2.1.1 (rcu r c c2 t7 p8))).2.2.2.1.1 (t7 - 1) (p8 - 1) none) = setW (pStep0 S) (ersS S.2.2.2.1.1 (rcu r c c2 t7 (p8 + 1))) := by
                    have e : updS (ersS S.2.2.2.1.1 (rcu r c c2 t7 p8)) (t7 - 1) (p8 - 1) none = ersS S.2.2.2.1.1 (rcu r c c2 t7 (p8 + 1)) := by
                      unfold updS ersS
                      dsimp only
                      congr 3
                      funext a d
                      by_cases qq : a = t7 - 1 ∧ d = p8 - 1
                      · rw [if_pos qq, if_pos (by unfold rcu; exact decide_eq_true (by omega))]
                      · rw [if_neg qq]
                        have eq : rcu r c c2 t7 p8 (a + 1) (d + 1) = rcu r c c2 t7 (p8 + 1) (a + 1) (d + 1) := by unfold rcu; exact decide_eq_decide.mpr (by omega)
                        rw [eq]
                    show setW (pStep0 S) (updS (ersS S.2.2.2.1.1 (rcu r c c2 t7 p8)) (t7 - 1) (p8 - 1) none) = _
                    rw [e]
                  rw [eF] at R2; exact R2
                rcases ContM_0 cell with ⟨q3, q4⟩ | ⟨q3, q4⟩
                · rw [show 320 * 40 + 10 * (t7 - 1) + (p8 - 1) = 320 * 40 + 10 * (t7 - 1) + (p8 - 1) by rfl, if_pos q3]; exact put 0 q4.symm
                · rw [if_neg q3]; exact put 1 q4.symm
          · show RM u1 N (setW (pStep0 S) (ersS S.2.2.2.1.1 (rcu r c c2 r c)))
            have e : ersS S.2.2.2.1.1 (rcu r c c2 r c) = (pStep0 S).2.2.2.1.1 := by
              rw [pStep0_w]
              unfold ersS
              show _ = (S.2.2.2.1.1.1, S.2.2.2.1.1.2.1, S.2.2.2.1.1.2.2.1, S.2.2.2.1.1.2.2.2)
              congr 3
              funext a d
              rw [if_neg (by unfold rcu; rw [decide_eq_true_iff]; omega)]
            rw [e, setW_self]; exact R1
        · rw [if_neg e4]; rw [if_neg (by omega)] at h
          exact i_throwing (h _ (RM_thr hB R') (FrM_uI f (wHas_i (by decide))) ⟨by rw [mI_uI, if_pos ⟨rfl, rfl⟩]; rfl, by rw [← hv]; exact Q65_t⟩)
    · rw [show tb ((1 ≤ r2 ∧ r2 ≤ S.2.2.2.1.1.1.1) ∧ 1 ≤ c2 ∧ c2 ≤ S.2.2.2.1.1.1.2) = 0 by rw [tb, if_neg e2], if_pos rfl]
      rw [if_neg (fun w => e2 w.2)] at h
      exact i_throwing (h _ (RM_thr hB R') (FrM_uI f (wHas_i (by decide))) ⟨by rw [mI_uI, if_pos ⟨rfl, rfl⟩]; rfl, by rw [← hv]; exact Q65_t⟩)
  · rw [show tb ((1 ≤ r ∧ r ≤ S.2.2.2.1.1.1.1) ∧ 1 ≤ c ∧ c ≤ S.2.2.2.1.1.1.2) = 0 by rw [tb, if_neg e1], if_pos rfl]
    rw [if_neg (fun w => e1 w.1)] at h
    exact i_throwing (h _ (RM_thr hB R') (FrM_uI f (wHas_i (by decide))) ⟨by rw [mI_uI, if_pos ⟨rfl, rfl⟩]; rfl, by rw [← hv]; exact Q65_t⟩)
