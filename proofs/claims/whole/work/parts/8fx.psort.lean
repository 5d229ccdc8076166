/-! ===== sort: what was in the arrays before does not matter ===== -/
theorem insF_q {ah : Int → Int → Prop} {x : Int} : ∀ (k : Nat) (q q' : Int → Int) (X : Int), (k : Int) ≤ X → (∀ j, 0 ≤ j → j ≤ X → j ≠ (k : Int) → q j = q' j) → ∀ j, 0 ≤ j → j ≤ X → insF ah x k q j = insF ah x k q' j
  | 0, q, q', X, kX, h, j, j0, j1 => by
    show upF q 0 x j = upF q' 0 x j
    unfold upF
    by_cases c : j = 0
    · rw [if_pos c, if_pos c]
    · rw [if_neg c, if_neg c]; exact h j j0 j1 c
  | k + 1, q, q', X, kX, h, j, j0, j1 => by
    have ek : q k = q' k := h k (by omega) (by omega) (by omega)
    rw [insF, insF, ek]
    by_cases ca : ah x (q' k)
    · rw [ci_1 ca, ci_1 ca]
      refine insF_q k _ _ X (by omega) (fun i i0 i1 hne => ?_) j j0 j1
      unfold upF
      by_cases c : i = (k : Int) + 1
      · rw [if_pos c, if_pos c]
      · rw [if_neg c, if_neg c]; exact h i i0 i1 (by omega)
    · rw [ci_0 ca, ci_0 ca]
      unfold upF
      by_cases c : j = (k : Int) + 1
      · rw [if_pos c, if_pos c]
      · rw [if_neg c, if_neg c]; exact h j j0 j1 (by omega)
theorem srtF_q {ah : Int → Int → Prop} {q q' : Int → Int} : ∀ m : Nat, ∀ j, 0 ≤ j → j < (m : Int) → srtF ah m q j = srtF ah m q' j
  | 0, j, j0, j1 => by omega
  | m + 1, j, j0, j1 => insF_q m _ _ m (Int.le_refl _) (fun i i0 i1 hne => srtF_q m i i0 (by omega)) j j0 (by omega)
