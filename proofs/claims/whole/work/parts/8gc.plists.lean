/-! ===== pure: lines that are put together or sorted stay different ===== -/
def NdL (L : List Int) : Prop := ∀ i j, 0 ≤ i → i < (L.length : Int) → 0 ≤ j → j < (L.length : Int) → gI L i = gI L j → i = j
theorem gI_c {x : Int} {L : List Int} {i : Int} (i0 : 0 ≤ i) : gI (x :: L) i = if i = 0 then x else gI L (i - 1) := by
  unfold gI
  by_cases c : i = 0
  · rw [if_pos c, c]; rfl
  · rw [if_neg c]
    obtain ⟨n, hn⟩ : ∃ n : Nat, i = (n : Int) + 1 := ⟨(i - 1).toNat, by omega⟩
    rw [hn, show ((n : Int) + 1).toNat = n + 1 by omega, show ((n : Int) + 1 - 1).toNat = n by omega]
    rfl
theorem NdL_0 : NdL [] := fun i j i0 i1 _ _ _ => by have : i < 0 := i1; omega
theorem NdL_c {x : Int} {L : List Int} (h : NdL L) (hx : ¬ x ∈ L) : NdL (x :: L) := by
  intro i j i0 i1 j0 j1 e
  rw [List.length_cons] at i1 j1
  rw [gI_c i0, gI_c j0] at e
  by_cases ci : i = 0
  · by_cases cj : j = 0
    · omega
    · rw [if_pos ci, if_neg cj] at e
      exact absurd (by rw [e]; exact gI_mem (by omega) (by omega)) hx
  · by_cases cj : j = 0
    · rw [if_neg ci, if_pos cj] at e
      exact absurd (by rw [← e]; exact gI_mem (by omega) (by omega)) hx
    · rw [if_neg ci, if_neg cj] at e
      have := h (i - 1) (j - 1) (by omega) (by omega) (by omega) (by omega) e
      omega
theorem NdL_i {x a : Int} {L : List Int} (a0 : 0 ≤ a) (a1 : a ≤ (L.length : Int)) (h : NdL L) (hx : ¬ x ∈ L) : NdL (insL L a x) := by
  intro i j i0 i1 j0 j1 e
  rw [insL_n a1] at i1 j1
  rw [insL_g a0 a1 i0, insL_g a0 a1 j0] at e
  have no : ∀ k, 0 ≤ k → k < (L.length : Int) → gI L k ≠ x := fun k k0 k1 q => hx (by rw [← q]; exact gI_mem k0 k1)
  by_cases ci : i < a
  · rw [if_pos ci] at e
    by_cases cj : j < a
    · rw [if_pos cj] at e; exact h i j i0 (by omega) j0 (by omega) e
    · rw [if_neg cj] at e
      by_cases cj2 : j = a
      · rw [if_pos cj2] at e; exact absurd e (no i i0 (by omega))
      · rw [if_neg cj2] at e
        have := h i (j - 1) i0 (by omega) (by omega) (by omega) e
        omega
  · rw [if_neg ci] at e
    by_cases ci2 : i = a
    · rw [if_pos ci2] at e
      by_cases cj : j < a
      · rw [if_pos cj] at e; exact absurd e.symm (no j j0 (by omega))
      · rw [if_neg cj] at e
        by_cases cj2 : j = a
        · omega
        · rw [if_neg cj2] at e; exact absurd e.symm (no (j - 1) (by omega) (by omega))
    · rw [if_neg ci2] at e
      by_cases cj : j < a
      · rw [if_pos cj] at e
        have := h (i - 1) j (by omega) (by omega) j0 (by omega) e
        omega
      · rw [if_neg cj] at e
        by_cases cj2 : j = a
        · rw [if_pos cj2] at e; exact absurd e (no (i - 1) (by omega) (by omega))
        · rw [if_neg cj2] at e
          have := h (i - 1) (j - 1) (by omega) (by omega) (by omega) (by omega) e
          omega
theorem jn1_nd {p o d : Sh} {ax : Int} (hax : ax = 0 ∨ ax = 1) (dp : DsS p) : ∀ (m : Nat) (k : Int), 0 ≤ k → k + m ≤ lnS p ax → NdL (jn1 p o d ax m k)
  | 0, _, _, _ => NdL_0
  | m + 1, k, k0, k1 => by
    have ih := jn1_nd (o := o) (d := d) hax dp m (k + 1) (by omega) (by omega)
    rw [jn1]
    by_cases c : stP p o d ax (idS p ax k)
    · rw [ci_1 c]
      refine NdL_c ih (fun hm => ?_)
      obtain ⟨j, j0, j1, j2, -⟩ := (jn1_mem _ _).mp hm
      have := dp ax hax j k (by omega) (by omega) k0 (by omega) j2
      omega
    · rw [ci_0 c]; exact ih
theorem jn2_nd {p o d : Sh} {ax : Int} (hax : ax = 0 ∨ ax = 1) (d2 : DsS o) : ∀ (m : Nat) (k : Int) (L : List Int) (a : Int), 0 ≤ k → k + m ≤ lnS o ax → (0 ≤ a ∧ a ≤ (L.length : Int)) → NdL L → (∀ j, k ≤ j → j < k + m → plS p ax (idS o ax j) < 0 → ¬ idS o ax j ∈ L) → NdL (jn2 p o d ax m k L a)
  | 0, _, L, _, _, _, _, h, _ => h
  | m + 1, k, L, a, k0, k1, ha, h, hL => by
    rw [jn2]
    by_cases e : 0 ≤ plS p ax (idS o ax k)
    · rw [if_pos e]
      refine jn2_nd hax d2 m (k + 1) L _ (by omega) (by omega) ?_ h (fun j j0 j1 => hL j (by omega) (by omega))
      rcases idxL_r L (idS o ax k) with q | ⟨q1, q2, -⟩
      · omega
      · omega
    · rw [if_neg e]
      by_cases e2 : stP o p d ax (idS o ax k)
      · rw [ci_1 e2]
        have nL := hL k (Int.le_refl _) (by omega) (by omega)
        refine jn2_nd hax d2 m (k + 1) _ _ (by omega) (by omega) ⟨by omega, by rw [insL_n ha.2]; omega⟩ (NdL_i ha.1 ha.2 h nL) (fun j j0 j1 j2 hm => ?_)
        rcases insL_mem.mp hm with q | q
        · have := d2 ax hax j k (by omega) (by omega) k0 (by omega) q
          omega
        · exact hL j (by omega) (by omega) j2 q
      · rw [ci_0 e2]
        exact jn2_nd hax d2 m (k + 1) L a (by omega) (by omega) ha h (fun j j0 j1 => hL j (by omega) (by omega))
theorem jnL_nd {p o d : Sh} {ax : Int} (hax : ax = 0 ∨ ax = 1) (dp : DsS p) (d2 : DsS o) (lp : 0 ≤ lnS p ax) (lo : 0 ≤ lnS o ax) : NdL (jnL p o d ax) := by
  unfold jnL
  refine jn2_nd hax d2 _ 0 _ 0 (Int.le_refl _) (by omega) ⟨Int.le_refl _, by omega⟩ (jn1_nd hax dp _ 0 (Int.le_refl _) (by omega)) (fun j j0 j1 j2 hm => ?_)
  obtain ⟨i, i0, i1, i2, -⟩ := (jn1_mem _ _).mp hm
  have := plS_in (s := p) (ax := ax) (j := i) i0 (by omega)
  rw [i2] at this
  omega
theorem joinL_nd {w t d : Sh} {ax : Int} (hax : ax = 0 ∨ ax = 1) (dw : DsS w) (dt : DsS t) (lw : 0 ≤ lnS w ax) (lt : 0 ≤ lnS t ax) : NdL (joinL w t d ax) := by
  unfold joinL
  by_cases e : ordP w d t ax
  · rw [ci_1 e]; exact jnL_nd hax dt dw lt lw
  · rw [ci_0 e]; exact jnL_nd hax dw dt lw lt
theorem insF_i {ah : Int → Int → Prop} {x : Int} : ∀ (k : Nat) (q : Int → Int) (X : Int), (k : Int) ≤ X → (∀ i j, 0 ≤ i → i ≤ X → i ≠ (k : Int) → 0 ≤ j → j ≤ X → j ≠ (k : Int) → q i = q j → i = j) → (∀ j, 0 ≤ j → j ≤ X → j ≠ (k : Int) → q j ≠ x) → ∀ i j, 0 ≤ i → i ≤ X → 0 ≤ j → j ≤ X → insF ah x k q i = insF ah x k q j → i = j
  | 0, q, X, kX, h, hx, i, j, i0, i1, j0, j1, e => by
    have e : upF q 0 x i = upF q 0 x j := e
    unfold upF at e
    by_cases ci : i = 0
    · by_cases cj : j = 0
      · omega
      · rw [if_pos ci, if_neg cj] at e; exact absurd e.symm (hx j j0 j1 cj)
    · by_cases cj : j = 0
      · rw [if_neg ci, if_pos cj] at e; exact absurd e (hx i i0 i1 ci)
      · rw [if_neg ci, if_neg cj] at e; exact h i j i0 i1 ci j0 j1 cj e
  | k + 1, q, X, kX, h, hx, i, j, i0, i1, j0, j1, e => by
    rw [insF] at e
    by_cases ca : ah x (q k)
    · rw [ci_1 ca] at e
      refine insF_i k _ X (by omega) (fun a c a0 a1 an c0 c1 cn ac => ?_) (fun c c0 c1 cn => ?_) i j i0 i1 j0 j1 e
      · unfold upF at ac
        by_cases ca : a = (k : Int) + 1
        · by_cases cc : c = (k : Int) + 1
          · omega
          · rw [if_pos ca, if_neg cc] at ac
            have := h k c (by omega) (by omega) (by omega) c0 c1 (by omega) ac
            omega
        · by_cases cc : c = (k : Int) + 1
          · rw [if_neg ca, if_pos cc] at ac
            have := h a k a0 a1 (by omega) (by omega) (by omega) (by omega) ac
            omega
          · rw [if_neg ca, if_neg cc] at ac
            exact h a c a0 a1 (by omega) c0 c1 (by omega) ac
      · unfold upF
        by_cases cc : c = (k : Int) + 1
        · rw [if_pos cc]; exact hx k (by omega) (by omega) (by omega)
        · rw [if_neg cc]; exact hx c c0 c1 (by omega)
    · rw [ci_0 ca] at e
      unfold upF at e
      by_cases c1' : i = (k : Int) + 1
      · by_cases c2' : j = (k : Int) + 1
        · omega
        · rw [if_pos c1', if_neg c2'] at e; exact absurd e.symm (hx j j0 j1 (by omega))
      · by_cases c2' : j = (k : Int) + 1
        · rw [if_neg c1', if_pos c2'] at e; exact absurd e (hx i i0 i1 (by omega))
        · rw [if_neg c1', if_neg c2'] at e; exact h i j i0 i1 (by omega) j0 j1 (by omega) e
theorem srtF_i {ah : Int → Int → Prop} {q : Int → Int} : ∀ m : Nat, ∀ i j, 0 ≤ i → i < (m : Int) → 0 ≤ j → j < (m : Int) → srtF ah m q i = srtF ah m q j → i = j
  | 0, i, j, i0, i1, _, _, _ => by omega
  | m + 1, i, j, i0, i1, j0, j1, e => by
    refine insF_i m (srtF ah m q) m (Int.le_refl _) (fun a c a0 a1 an c0 c1 cn ac => srtF_i m a c a0 (by omega) c0 (by omega) ac) (fun c c0 c1 cn => ?_) i j i0 (by omega) j0 (by omega) e
    have := (srtF_b (ah := ah) (q := q) (n := (m : Int)) m (Int.le_refl _) c c0 (by omega)).2
    omega
theorem soF_i {col fr to t : Int} {S : SS} {i j : Int} (i0 : 0 ≤ i) (i1 : i < to - fr + 1) (j0 : 0 ≤ j) (j1 : j < to - fr + 1) (e : soF col fr to t S i = soF col fr to t S j) : i = j := by
  unfold soF at e
  exact srtF_i _ i j i0 (by omega) j0 (by omega) e
