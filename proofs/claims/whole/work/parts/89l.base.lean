/-! ===== base: the latest version that both come of ===== -/
theorem cb_c {p q : Prop} (h : p ↔ q) : cb p = cb q := by
  by_cases e : p
  · rw [cb_1 e, cb_1 (h.mp e)]
  · rw [cb_0 e, cb_0 (fun w => e (h.mpr w))]
theorem cb_n {p : Prop} (h : cb p = 0) : ¬ p := fun w => by rw [cb_1 w] at h; exact absurd h (by decide)
theorem cb_y {p : Prop} (h : cb p ≠ 0) : p := by
  by_cases e : p
  · exact e
  · exact absurd (cb_0 e) h
theorem cb_z (p : Prop) : Z1 (cb p) := by
  by_cases e : p
  · rw [cb_1 e]; exact z1_1
  · rw [cb_0 e]; exact z1_0
/-- j is v, or v comes of it -/
def ancP (par oth : Int → Int) : Nat → Int → Int → Prop
  | 0, _, _ => False
  | n + 1, v, j => 0 ≤ v ∧ (j = v ∨ ancP par oth n (par v) j ∨ ancP par oth n (oth v) j)
/-- the versions up to v come of earlier ones -/
def Dec (par oth : Int → Int) (v : Int) : Prop := ∀ j, 0 ≤ j → j ≤ v → (-1 ≤ par j ∧ par j < j) ∧ (-1 ≤ oth j ∧ oth j < j) ∧ (0 < j → 0 ≤ par j)
theorem Dec_le {par oth : Int → Int} {v w : Int} (h : Dec par oth v) (hw : w ≤ v) : Dec par oth w := fun j a c => h j a (by omega)
theorem ancP_b {par oth : Int → Int} : ∀ (n : Nat) (v j : Int), Dec par oth v → ancP par oth n v j → 0 ≤ j ∧ j ≤ v
  | 0, _, _, _, h => h.elim
  | n + 1, v, j, hd, h => by
    obtain ⟨v0, h⟩ := h
    have d := hd v v0 (by omega)
    rcases h with h | h | h
    · omega
    · have := ancP_b n (par v) j (Dec_le hd (by omega)) h; omega
    · have := ancP_b n (oth v) j (Dec_le hd (by omega)) h; omega
theorem ancP_up {par oth : Int → Int} : ∀ (n : Nat) (v i j : Int), Dec par oth v → v < n → ancP par oth n v i → (par i = j ∨ oth i = j) → 0 ≤ j → ancP par oth n v j
  | 0, _, _, _, _, _, h, _, _ => h.elim
  | n + 1, v, i, j, hd, hn, h, hj, j0 => by
    obtain ⟨v0, h⟩ := h
    have d := hd v v0 (by omega)
    refine ⟨v0, Or.inr ?_⟩
    rcases h with h | h | h
    · subst h
      obtain ⟨m, rfl⟩ : ∃ m, n = m + 1 := ⟨n - 1, by omega⟩
      rcases hj with hj | hj
      · exact Or.inl ⟨by omega, Or.inl hj.symm⟩
      · exact Or.inr ⟨by omega, Or.inl hj.symm⟩
    · exact Or.inl (ancP_up n (par v) i j (Dec_le hd (by omega)) (by omega) h hj j0)
    · exact Or.inr (ancP_up n (oth v) i j (Dec_le hd (by omega)) (by omega) h hj j0)
theorem ancP_dn {par oth : Int → Int} : ∀ (n : Nat) (v j : Int), ancP par oth n v j → j = v ∨ ∃ i, ancP par oth n v i ∧ (par i = j ∨ oth i = j)
  | 0, _, _, h => h.elim
  | n + 1, v, j, h => by
    obtain ⟨v0, h⟩ := h
    rcases h with h | h | h
    · exact Or.inl h
    · rcases ancP_dn n (par v) j h with e | ⟨i, h1, h2⟩
      · exact Or.inr ⟨v, ⟨v0, Or.inl rfl⟩, Or.inl e.symm⟩
      · exact Or.inr ⟨i, ⟨v0, Or.inr (Or.inl h1)⟩, h2⟩
    · rcases ancP_dn n (oth v) j h with e | ⟨i, h1, h2⟩
      · exact Or.inr ⟨v, ⟨v0, Or.inl rfl⟩, Or.inr e.symm⟩
      · exact Or.inr ⟨i, ⟨v0, Or.inr (Or.inr h1)⟩, h2⟩
theorem ancP_0 {par oth : Int → Int} : ∀ (n : Nat) (v : Int), Dec par oth v → 0 ≤ v → v < n → ancP par oth n v 0
  | 0, _, _, _, h => by omega
  | n + 1, v, hd, v0, hn => by
    refine ⟨v0, ?_⟩
    have d := hd v v0 (by omega)
    by_cases e : v = 0
    · exact Or.inl e.symm
    · exact Or.inr (Or.inl (ancP_0 n (par v) (Dec_le hd (by omega)) (d.2.2 (by omega)) (by omega)))
/-- the greatest k up to n with p; 0 without one -/
noncomputable def topP (p : Int → Prop) : Nat → Int
  | 0 => 0
  | n + 1 => ci (p ((n : Int) + 1)) ((n : Int) + 1) (topP p n)
theorem topP_e {p : Int → Prop} {m : Int} : ∀ (n : Nat), 0 ≤ m → m ≤ n → p m → (∀ k, m < k → k ≤ n → ¬ p k) → topP p n = m
  | 0, h0, h1, _, _ => by rw [topP]; omega
  | n + 1, h0, h1, hp, hn => by
    rw [topP]
    by_cases e : m = (n : Int) + 1
    · rw [ci_1 (e ▸ hp)]; exact e.symm
    · rw [ci_0 (hn _ (by omega) (by omega))]
      exact topP_e n h0 (by omega) hp (fun k a c => hn k a (by omega))
noncomputable def bsP (par oth : Int → Int) (v w : Int) : Int := topP (fun k => ancP par oth 41 v k ∧ ancP par oth 41 w k) 39
noncomputable def pBase (v w : Int) (S : SS) : Int := if (0 ≤ v ∧ v < S.2.1.1) ∧ (0 ≤ w ∧ w < S.2.1.1) then bsP S.2.1.2.2.1 S.2.1.2.2.2 v w else -1
/-! the reference's -/
theorem i_ancestors {u : Mu} {row : Nat} {v : Int} {par oth : Int → Int} {P : Mu → Prop} (hk : mkl.getD row 0 = 17) (hn : mnl.getD row 0 = 40) (r9 : row ≠ 9) (r10 : row ≠ 10) (v0 : 0 ≤ v) (v1 : v < 40) (hd : Dec par oth v) (h9 : ∀ j, 0 ≤ j → j ≤ v → mI u 9 j = par j) (h10 : ∀ j, 0 ≤ j → j ≤ v → mI u 10 j = oth j) (h : ∀ x, FrM [(row, none)] u x → (∀ j, 0 ≤ j → j < 40 → mI x row j = cb (ancP par oth 41 v j)) → P x) : F_X12_ancestors v row u P := by
  unfold F_X12_ancestors F_X12_ancestors_2
  refine lp_I (fun q => (0 ≤ q.1 ∧ q.1 ≤ 40) ∧ FrM [(row, none)] u q.2 ∧ ∀ j, 0 ≤ j → j < q.1 → mI q.2 row j = cb (j = v)) (fun q => (40 - q.1).toNat) ?_ (0, u) ⟨⟨by show (0 : Int) ≤ 0; decide, by show (0 : Int) ≤ 40; decide⟩, FrM_rf, fun j j0 j1 => absurd j1 (by show ¬ j < 0; omega)⟩
  rintro G ⟨k, x⟩ ⟨⟨k0, k1⟩, fx, hx⟩ ih
  simp only at k0 k1 fx hx
  unfold L_X12_ancestors_2 F_X12_ancestors_20
  dsimp only
  by_cases ek : 40 ≤ k
  · rw [if_pos ek]
    show F_X12_ancestors_29 row v x P
    unfold F_X12_ancestors_29
    refine lp_I (fun q => (0 ≤ q.1 ∧ q.1 ≤ v) ∧ FrM [(row, none)] u q.2 ∧ ∀ j, 0 ≤ j → j < 40 → mI q.2 row j = cb (j = v ∨ ∃ i, q.1 < i ∧ ancP par oth 41 v i ∧ (par i = j ∨ oth i = j))) (fun q => q.1.toNat) ?_ (v, x) ⟨⟨v0, by show v ≤ v; omega⟩, fx, fun j j0 j1 => ?_⟩
    rotate_left
    · rw [show mI (v, x).2 row j = mI x row j from rfl, hx j j0 (by omega)]
      refine cb_c ⟨Or.inl, fun w => ?_⟩
      rcases w with w | ⟨i, i1, i2, -⟩
      · exact w
      · have := ancP_b 41 v i hd i2
        replace i1 : v < i := i1
        omega
    rintro G2 ⟨k, y⟩ ⟨⟨k0, k1⟩, fy, hy⟩ ih2
    simp only at k0 k1 fy hy
    unfold L_X12_ancestors_29 F_X12_ancestors_66
    dsimp only
    have step : ∀ j, 0 ≤ j → j < 40 → (ancP par oth 41 v j ↔ (j = v ∨ ∃ i, j < i ∧ ancP par oth 41 v i ∧ (par i = j ∨ oth i = j))) := fun j j0 j1 => by
      constructor
      · intro w
        rcases ancP_dn 41 v j w with e | ⟨i, h1, h2⟩
        · exact Or.inl e
        · have b := ancP_b 41 v i hd h1
          have d := hd i b.1 b.2
          exact Or.inr ⟨i, by omega, h1, h2⟩
      · rintro (e | ⟨i, -, h1, h2⟩)
        · rw [e]; exact ⟨v0, Or.inl rfl⟩
        · exact ancP_up 41 v i j hd (by omega) h1 h2 j0
    by_cases ez : k ≤ 0
    · rw [if_pos ez]
      show P y
      refine h y fy (fun j j0 j1 => ?_)
      rw [hy j j0 j1]
      refine cb_c ⟨fun w => (step j j0 j1).mpr ?_, fun w => ?_⟩
      · rcases w with w | ⟨i, i1, i2, i3⟩
        · exact Or.inl w
        · have b := ancP_b 41 v i hd i2
          have d := hd i b.1 b.2
          exact Or.inr ⟨i, by omega, i2, i3⟩
      · rcases (step j j0 j1).mp w with w | ⟨i, i1, i2, i3⟩
        · exact Or.inl w
        · exact Or.inr ⟨i, by omega, i2, i3⟩
    · rw [if_neg ez]
      have e40 : ((mnl.getD row 0 : Nat) : Int) = 40 := by rw [hn]; rfl
      refine ⟨hk, k0, by rw [e40]; omega, ?_⟩
      have hyk := hy k k0 (by omega)
      have ea : cb (k = v ∨ ∃ i, k < i ∧ ancP par oth 41 v i ∧ (par i = k ∨ oth i = k)) = cb (ancP par oth 41 v k) := cb_c (step k k0 (by omega)).symm
      rw [ea] at hyk
      rw [w32e (x := k + -1) (by omega) (by omega)]
      have e9 : mI y 9 k = par k := by rw [fy.1 9 k (by rintro ⟨t, ht, h1, -⟩; simp only [List.mem_singleton] at ht; subst ht; exact r9 h1)]; exact h9 k k0 k1
      have e10 : mI y 10 k = oth k := by rw [fy.1 10 k (by rintro ⟨t, ht, h1, -⟩; simp only [List.mem_singleton] at ht; subst ht; exact r10 h1)]; exact h10 k k0 k1
      have d := hd k k0 k1
      by_cases en : mI y row k = 0
      · rw [if_pos en]
        rw [hyk] at en
        have na := cb_n en
        refine ih2 (k + -1, y) ⟨⟨by show 0 ≤ k + -1; omega, by show k + -1 ≤ v; omega⟩, fy, fun j j0 j1 => ?_⟩ (by show (k + -1).toNat < k.toNat; omega)
        rw [show mI (k + -1, y).2 row j = mI y row j from rfl, hy j j0 j1]
        refine cb_c ⟨fun w => ?_, fun w => ?_⟩
        · rcases w with w | ⟨i, i1, i2⟩
          · exact Or.inl w
          · exact Or.inr ⟨i, by show k + -1 < i; omega, i2⟩
        · rcases w with w | ⟨i, i1, i2⟩
          · exact Or.inl w
          · replace i1 : k + -1 < i := i1
            by_cases ei : i = k
            · rw [ei] at i2; exact absurd i2.1 na
            · exact Or.inr ⟨i, by omega, i2⟩
      · rw [if_neg en]
        rw [hyk] at en
        have ya := cb_y en
        rw [e9]
        refine ⟨by omega, by omega, by omega, by rw [e40]; omega, ?_⟩
        rintro _ rfl
        have e10' : mI (uI y row (par k) 1) 10 k = oth k := by rw [mI_uI, if_neg (by omega)]; exact e10
        have f1 : FrM [(row, none)] u (uI y row (par k) 1) := FrM_uI fy (wHas_a (by simp))
        refine ⟨by omega, by omega, ?_⟩
        rw [e10']
        have fin : ∀ w : Mu, FrM [(row, none)] u w → (∀ j, mI w row j = if j = par k ∨ j = oth k ∧ 0 ≤ oth k then 1 else mI y row j) → G2 (k + -1, w) := fun w fw hw => by
          refine ih2 (k + -1, w) ⟨⟨by show 0 ≤ k + -1; omega, by show k + -1 ≤ v; omega⟩, fw, fun j j0 j1 => ?_⟩ (by show (k + -1).toNat < k.toNat; omega)
          rw [show mI (k + -1, w).2 row j = mI w row j from rfl, hw j]
          by_cases c : j = par k ∨ j = oth k ∧ 0 ≤ oth k
          · rw [if_pos c, cb_1 (Or.inr ⟨k, by show k + -1 < k; omega, ya, c.elim (fun c => Or.inl c.symm) (fun c => Or.inr c.1.symm)⟩)]
          · rw [if_neg c, hy j j0 j1]
            refine cb_c ⟨fun w => ?_, fun w => ?_⟩
            · rcases w with w | ⟨i, i1, i2⟩
              · exact Or.inl w
              · exact Or.inr ⟨i, by show k + -1 < i; omega, i2⟩
            · rcases w with w | ⟨i, i1, i2⟩
              · exact Or.inl w
              · replace i1 : k + -1 < i := i1
                by_cases ei : i = k
                · rw [ei] at i2; exfalso; apply c; rcases i2.2 with i3 | i3
                  · exact Or.inl i3.symm
                  · exact Or.inr ⟨i3.symm, by omega⟩
                · exact Or.inr ⟨i, by omega, i2⟩
        by_cases eo : oth k < 0
        · rw [if_pos eo]
          refine fin _ f1 (fun j => ?_)
          rw [mI_uI]
          by_cases ej : j = par k
          · rw [if_pos ⟨rfl, ej⟩, if_pos (Or.inl ej)]
          · rw [if_neg (fun w => ej w.2), if_neg (by omega)]
        · rw [if_neg eo]
          refine ⟨by omega, by rw [e40]; omega, ?_⟩
          rintro _ rfl
          refine fin _ (FrM_uI f1 (wHas_a (by simp))) (fun j => ?_)
          rw [mI_uI, mI_uI]
          by_cases ej : j = oth k
          · rw [if_pos ⟨rfl, ej⟩, if_pos (Or.inr ⟨ej, by omega⟩)]
          · rw [if_neg (fun w => ej w.2)]
            by_cases ej2 : j = par k
            · rw [if_pos ⟨rfl, ej2⟩, if_pos (Or.inl ej2)]
            · rw [if_neg (fun w => ej2 w.2), if_neg (by omega)]
  · rw [if_neg ek, w32e (x := k + 1) (by omega) (by omega)]
    have e40 : ((mnl.getD row 0 : Nat) : Int) = 40 := by rw [hn]; rfl
    have nx : ∀ t : Int, t = cb (k = v) → G (k + 1, uI x row k t) := fun t ht => by
      refine ih (k + 1, uI x row k t) ⟨⟨by show 0 ≤ k + 1; omega, by show k + 1 ≤ 40; omega⟩, FrM_uI fx (wHas_a (by simp)), fun j j0 j1 => ?_⟩ (by show (40 - (k + 1)).toNat < (40 - k).toNat; omega)
      replace j1 : j < k + 1 := j1
      show mI (uI x row k t) row j = _
      rw [mI_uI]
      by_cases ej : j = k
      · rw [if_pos ⟨rfl, ej⟩, ej, ht]
      · rw [if_neg (fun w => ej w.2)]; exact hx j j0 (by omega)
    by_cases e : k = v
    · rw [if_pos e]
      refine ⟨z1_1, hk, k0, by rw [e40]; omega, ?_⟩
      rintro _ rfl
      exact nx 1 (cb_1 e).symm
    · rw [if_neg e]
      refine ⟨z1_0, hk, k0, by rw [e40]; omega, ?_⟩
      rintro _ rfl
      exact nx 0 (cb_0 e).symm
theorem Bd_Dec {S : SS} (hB : Bd S) {v : Int} (hv : v < S.2.1.1) : Dec S.2.1.2.2.1 S.2.1.2.2.2 v := fun j j0 j1 => by
  obtain ⟨-, ⟨a1, a2, a3⟩, a4⟩ := hB.2.1.2 j j0 (by omega)
  exact ⟨⟨a1, a2⟩, a4, a3⟩
def wBs : WR := [(0, some 0), (89, none), (90, none)]
theorem i_base {u : Mu} {N : Int} {S : SS} {v w : Int} {P : Int → Mu → Prop} (hB : Bd S) (R : RM u N S) (h : ∀ x, RM x N S → FrM wBs u x → mI x 0 0 = 0 → P (pBase v w S) x) : F_X12_base v w u P := by
  have R' := RM_thr (x := 0) hB R
  have f : FrM wBs u (uI u 0 0 0) := FrM_uI FrM_rf (wHas_i (by decide))
  have z0 : mI (uI u 0 0 0) 0 0 = 0 := by rw [mI_uI, if_pos ⟨rfl, rfl⟩]
  unfold F_X12_base F_X12_base_33
  rintro _ rfl
  generalize hx : uI u 0 0 0 = x at R' f z0 ⊢
  obtain ⟨-, ht, hl, hb, hk, hq⟩ := id R'
  have h40 := hB.2.1.1
  unfold pBase at h
  rw [hl.1, w32e (x := S.2.1.1 - 1) (by omega) (by omega)]
  refine i_in ?_
  by_cases e1 : 0 ≤ v ∧ v < S.2.1.1
  rotate_left
  · rw [show tb (0 ≤ v ∧ v ≤ S.2.1.1 - 1) = 0 by rw [tb, if_neg (by omega)], if_pos rfl]
    rw [if_neg (fun w => e1 w.1)] at h
    exact h x R' f z0
  rw [show tb (0 ≤ v ∧ v ≤ S.2.1.1 - 1) = 1 by rw [tb, if_pos (by omega)], if_neg (by decide)]
  refine i_in ?_
  by_cases e2 : 0 ≤ w ∧ w < S.2.1.1
  rotate_left
  · rw [show tb (0 ≤ w ∧ w ≤ S.2.1.1 - 1) = 0 by rw [tb, if_neg (by omega)], if_pos rfl]
    rw [if_neg (fun q => e2 q.2)] at h
    exact h x R' f z0
  rw [show tb (0 ≤ w ∧ w ≤ S.2.1.1 - 1) = 1 by rw [tb, if_pos (by omega)], if_neg (by decide)]
  rw [if_pos ⟨e1, e2⟩] at h
  refine i_ancestors (par := S.2.1.2.2.1) (oth := S.2.1.2.2.2) rfl rfl (by decide) (by decide) e1.1 (by omega) (Bd_Dec hB e1.2) (fun j j0 j1 => (hl.2 j j0 (by omega)).2.1) (fun j j0 j1 => (hl.2 j j0 (by omega)).2.2) (fun y fy hy => ?_)
  have y9 : ∀ j, mI y 9 j = mI x 9 j := fun j => mE fy (R := [(9, none)]) (by decide) (wHas_a (by decide))
  have y10 : ∀ j, mI y 10 j = mI x 10 j := fun j => mE fy (R := [(10, none)]) (by decide) (wHas_a (by decide))
  refine i_ancestors (par := S.2.1.2.2.1) (oth := S.2.1.2.2.2) rfl rfl (by decide) (by decide) e2.1 (by omega) (Bd_Dec hB e2.2) (fun j j0 j1 => by rw [y9]; exact (hl.2 j j0 (by omega)).2.1) (fun j j0 j1 => by rw [y10]; exact (hl.2 j j0 (by omega)).2.2) (fun t ft ht2 => ?_)
  have fxy : FrM [(89, none), (90, none)] x t := FrM_tr (L := [(89, none), (90, none)]) ⟨fun k i n => fy.1 k i (fun w => n (by obtain ⟨q, q1, q2⟩ := w; simp only [List.mem_singleton] at q1; subst q1; exact ⟨_, by simp, q2⟩)), fun k i n => fy.2 k i (fun w => n (by obtain ⟨q, q1, q2⟩ := w; simp only [List.mem_singleton] at q1; subst q1; exact ⟨_, by simp, q2⟩))⟩ ⟨fun k i n => ft.1 k i (fun w => n (by obtain ⟨q, q1, q2⟩ := w; simp only [List.mem_singleton] at q1; subst q1; exact ⟨_, by simp, q2⟩)), fun k i n => ft.2 k i (fun w => n (by obtain ⟨q, q1, q2⟩ := w; simp only [List.mem_singleton] at q1; subst q1; exact ⟨_, by simp, q2⟩))⟩
  have fut : FrM wBs u t := FrM_tr f ⟨fun k i n => fxy.1 k i (fun w => n (by obtain ⟨q, q1, q2⟩ := w; exact ⟨q, (show ∀ q ∈ ([(89, none), (90, none)] : WR), q ∈ wBs by decide) q q1, q2⟩)), fun k i n => fxy.2 k i (fun w => n (by obtain ⟨q, q1, q2⟩ := w; exact ⟨q, (show ∀ q ∈ ([(89, none), (90, none)] : WR), q ∈ wBs by decide) q q1, q2⟩))⟩
  have Rt : RM t N S := RM_fr hB fxy (by decide) (by decide) (by decide) (by decide) (by decide) (by decide) (by decide) R'
  have e8 : mI t 0 8 = S.2.1.1 := Rt.2.2.1.1
  have h89 : ∀ j, 0 ≤ j → j < 40 → mI t 89 j = cb (ancP S.2.1.2.2.1 S.2.1.2.2.2 41 v j) := fun j j0 j1 => by rw [mE ft (R := [(89, none)]) (by decide) (wHas_a (by decide))]; exact hy j j0 j1
  have zt : mI t 0 0 = 0 := by rw [mE fxy (R := [(0, some 0)]) (by decide) (wHas_i (by decide))]; exact z0
  rw [e8, w32e (x := S.2.1.1 - 1) (by omega) (by omega)]
  unfold F_X12_base_60
  refine lp_I (fun k => (0 ≤ k ∧ k < 40) ∧ ∀ j, k < j → j ≤ 39 → ¬ (ancP S.2.1.2.2.1 S.2.1.2.2.2 41 v j ∧ ancP S.2.1.2.2.1 S.2.1.2.2.2 41 w j)) (fun k => k.toNat) ?_ _ ⟨by omega, fun j j0 j1 q => by have := ancP_b 41 v j (Bd_Dec hB e1.2) q.1; omega⟩
  rintro G k ⟨⟨k0, k1⟩, ks⟩ ih
  unfold L_X12_base_60 F_X12_base_78
  refine ⟨k0, k1, ?_⟩
  rw [h89 k k0 k1, ht2 k k0 k1]
  have nx : ¬ (ancP S.2.1.2.2.1 S.2.1.2.2.2 41 v k ∧ ancP S.2.1.2.2.1 S.2.1.2.2.2 41 w k) → G (w32 (k + -1)) := fun q => by
    have kp : k ≠ 0 := fun e => q (by rw [e]; exact ⟨ancP_0 41 v (Bd_Dec hB e1.2) e1.1 (by omega), ancP_0 41 w (Bd_Dec hB e2.2) e2.1 (by omega)⟩)
    rw [w32e (by omega) (by omega)]
    refine ih (k + -1) ⟨by omega, fun j j0 j1 => ?_⟩ (by omega)
    by_cases ej : j = k
    · rw [ej]; exact q
    · exact ks j (by omega) j1
  by_cases q1 : cb (ancP S.2.1.2.2.1 S.2.1.2.2.2 41 v k) = 0
  · rw [if_pos q1]; exact nx (fun q => cb_n q1 q.1)
  · rw [if_neg q1]
    refine ⟨k0, k1, ?_⟩
    by_cases q2 : cb (ancP S.2.1.2.2.1 S.2.1.2.2.2 41 w k) = 0
    · rw [if_pos q2]; exact nx (fun q => cb_n q2 q.2)
    · rw [if_neg q2]
      show P k t
      have e : bsP S.2.1.2.2.1 S.2.1.2.2.2 v w = k := topP_e 39 k0 (by omega) ⟨cb_y q1, cb_y q2⟩ (fun j j0 j1 => ks j j0 (by omega))
      rw [e] at h
      exact h t Rt fut zt
/-! the system's: bits -/
def ancN (par oth : Int → Int) : Nat → Int → Nat
  | 0, _ => 0
  | n + 1, v => if v < 0 then 0 else (2 ^ v.toNat ||| ancN par oth n (par v)) ||| ancN par oth n (oth v)
theorem lOr_n {a b : Nat} (ha : a < 2 ^ 62) (hb : b < 2 ^ 62) : lOr (a : Int) (b : Int) = ((a ||| b : Nat) : Int) := by
  have e1 : lOr (a : Int) (b : Int) = ((BitVec.ofInt 64 (a : Int)) ||| (BitVec.ofInt 64 (b : Int))).toInt := rfl
  have hor : a ||| b < 2 ^ 62 := Nat.or_lt_two_pow ha hb
  have e2 : ((BitVec.ofInt 64 (a : Int)) ||| (BitVec.ofInt 64 (b : Int))).toNat = a ||| b := by
    rw [BitVec.toNat_or, BitVec.ofInt_natCast, BitVec.ofInt_natCast, BitVec.toNat_ofNat, BitVec.toNat_ofNat, Nat.mod_eq_of_lt (by omega), Nat.mod_eq_of_lt (by omega)]
  rw [e1, BitVec.toInt_eq_toNat_of_lt (by rw [e2]; omega), e2]
theorem lAnd_n {a b : Nat} (ha : a < 2 ^ 62) (hb : b < 2 ^ 62) : lAnd (a : Int) (b : Int) = ((a &&& b : Nat) : Int) := by
  have e1 : lAnd (a : Int) (b : Int) = ((BitVec.ofInt 64 (a : Int)) &&& (BitVec.ofInt 64 (b : Int))).toInt := rfl
  have hor : a &&& b < 2 ^ 62 := Nat.and_lt_two_pow a hb
  have e2 : ((BitVec.ofInt 64 (a : Int)) &&& (BitVec.ofInt 64 (b : Int))).toNat = a &&& b := by
    rw [BitVec.toNat_and, BitVec.ofInt_natCast, BitVec.ofInt_natCast, BitVec.toNat_ofNat, BitVec.toNat_ofNat, Nat.mod_eq_of_lt (by omega), Nat.mod_eq_of_lt (by omega)]
  rw [e1, BitVec.toInt_eq_toNat_of_lt (by rw [e2]; omega), e2]
theorem lShl_t : ∀ k : Nat, k < 40 → lShl 1 (k : Int) = ((2 ^ k : Nat) : Int) := by decide +kernel
theorem ancN_b {par oth : Int → Int} : ∀ (n : Nat) (v : Int), v < 40 → Dec par oth v → ancN par oth n v < 2 ^ 40
  | 0, _, _, _ => by rw [ancN]; decide
  | n + 1, v, hv, hd => by
    rw [ancN]
    split
    · decide
    · have d := hd v (by omega) (by omega)
      refine Nat.or_lt_two_pow (Nat.or_lt_two_pow (Nat.pow_lt_pow_right (by decide) (by omega)) ?_) ?_
      · exact ancN_b n _ (by omega) (Dec_le hd (by omega))
      · exact ancN_b n _ (by omega) (Dec_le hd (by omega))
theorem ancB_N {par oth : Int → Int} : ∀ (n : Nat) (v : Int), v < 40 → Dec par oth v → ancB par oth n v = (ancN par oth n v : Int)
  | 0, _, _, _ => rfl
  | n + 1, v, hv, hd => by
    rw [ancB, ancN]
    split
    · rfl
    · have d := hd v (by omega) (by omega)
      have b1 := ancN_b n (par v) (by omega) (Dec_le hd (by omega))
      have b2 := ancN_b n (oth v) (by omega) (Dec_le hd (by omega))
      have b3 : 2 ^ v.toNat < 2 ^ 40 := Nat.pow_lt_pow_right (by decide) (by omega)
      have e := lShl_t v.toNat (by omega)
      rw [Int.toNat_of_nonneg (by omega)] at e
      rw [ancB_N n (par v) (by omega) (Dec_le hd (by omega)), ancB_N n (oth v) (by omega) (Dec_le hd (by omega)), e, lOr_n (by omega) (by omega), lOr_n (by have := Nat.or_lt_two_pow b3 b1; omega) (by omega)]
theorem ancN_t {par oth : Int → Int} : ∀ (n : Nat) (v : Int) (j : Nat), Dec par oth v → ((ancN par oth n v).testBit j = true ↔ ancP par oth n v j)
  | 0, _, j, _ => by rw [ancN, Nat.zero_testBit]; exact ⟨fun h => (by cases h), fun h => h.elim⟩
  | n + 1, v, j, hd => by
    rw [ancN]
    by_cases e : v < 0
    · rw [if_pos e, Nat.zero_testBit]
      exact ⟨fun h => (by cases h), fun h => by have := h.1; omega⟩
    · have d := hd v (by omega) (by omega)
      rw [if_neg e, Nat.testBit_or, Nat.testBit_or, Bool.or_eq_true, Bool.or_eq_true, ancN_t n (par v) j (Dec_le hd (by omega)), ancN_t n (oth v) j (Dec_le hd (by omega)), Nat.testBit_two_pow, decide_eq_true_iff]
      constructor
      · rintro ((h | h) | h)
        · exact ⟨by omega, Or.inl (by omega)⟩
        · exact ⟨by omega, Or.inr (Or.inl h)⟩
        · exact ⟨by omega, Or.inr (Or.inr h)⟩
      · rintro ⟨-, h | h | h⟩
        · exact Or.inl (Or.inl (by omega))
        · exact Or.inl (Or.inr h)
        · exact Or.inr h
