/-! ===== the reference's letters alike ===== -/
theorem i_sameLetters {u : Mu} {q q' : Int} {a b : List Int} {P : Int → Prop} (h0 : mI u 0 19 ≤ 82400) (h1 : LetM u q a) (h2 : LetM u q' b) (le : a.length = b.length) (hy : a = b → P 1) (hn : a ≠ b → P 0) : F_X12_sameLetters q q' (a.length : Int) u P := by
  obtain ⟨a1, a2, a3⟩ := h1
  obtain ⟨b1, b2, b3⟩ := h2
  unfold F_X12_sameLetters F_X12_sameLetters_3
  refine lp_I (fun x => 0 ≤ x ∧ x ≤ (a.length : Int) ∧ ∀ i : Nat, (i : Int) < x → a.getD i 0 = b.getD i 0) (fun x => ((a.length : Int) - x).toNat) ?_ 0 ⟨by decide, by omega, fun i hi => by omega⟩
  rintro G x ⟨x0, x1, xs⟩ ih
  unfold L_X12_sameLetters_3
  by_cases e : (a.length : Int) ≤ x
  · rw [if_pos e]
    exact hy (lst_e le (fun i hi => xs i (by omega)))
  · rw [if_neg e, w32e (x := q + x) (by omega) (by omega), w32e (x := q' + x) (by omega) (by omega)]
    refine ⟨by omega, by omega, by omega, by omega, ?_⟩
    have g1 := a3 x.toNat (by omega)
    have g2 := b3 x.toNat (by omega)
    rw [Int.toNat_of_nonneg x0] at g1 g2
    rw [g1, g2]
    by_cases e2 : a.getD x.toNat 0 = b.getD x.toNat 0
    · rw [if_pos e2, w32e (by omega) (by omega)]
      refine ih (x + 1) ⟨by omega, by omega, fun i hi => ?_⟩ (by omega)
      by_cases ei : i = x.toNat
      · rw [ei]; exact e2
      · exact xs i (by omega)
    · rw [if_neg e2]
      exact hn (fun w => e2 (by rw [w]))
