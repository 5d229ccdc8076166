/-! ===== runs of bytes ===== -/
theorem bt_in {t : Tx} {k : Int} (h : bt t k ≠ -1) : 0 ≤ k ∧ k < t.2.1 := by
  unfold bt at h
  split at h
  · next c => exact c
  · exact absurd rfl h
theorem bt_out {t : Tx} {k : Int} (h : ¬ (0 ≤ k ∧ k < t.2.1)) : bt t k = -1 := by unfold bt; exact if_neg h
theorem bt_is {t : Tx} {k : Int} (h0 : 0 ≤ k) (h1 : k < t.2.1) : bt t k = t.1 k := by unfold bt; exact if_pos ⟨h0, h1⟩
theorem run_s {p : Int → Bool} {t : Tx} (hp : p (-1) = false) : ∀ (f : Nat) (k : Int), 0 ≤ k → (t.2.1 - k).toNat ≤ f → k ≤ run p t f k ∧ (run p t f k ≤ t.2.1 ∨ run p t f k = k) ∧ p (bt t (run p t f k)) = false ∧ ∀ j, k ≤ j → j < run p t f k → p (bt t j) = true
  | 0, k, h0, h => by
    rw [run]
    exact ⟨Int.le_refl k, Or.inr rfl, by rw [bt_out (by omega)]; exact hp, fun j a b => by omega⟩
  | f + 1, k, h0, h => by
    rw [run]
    split
    · next c =>
      have hk := bt_in (t := t) (k := k) (fun w => by rw [w, hp] at c; cases c)
      obtain ⟨i1, i2, i3, i4⟩ := run_s (t := t) hp f (k + 1) (by omega) (by omega)
      refine ⟨by omega, Or.inl (by omega), i3, fun j a b => ?_⟩
      by_cases e : j = k
      · rw [e]; exact c
      · exact i4 j (by omega) b
    · next c => exact ⟨Int.le_refl k, Or.inr rfl, by cases hq : p (bt t k) with
        | false => rfl
        | true => exact absurd hq c, fun j a b => by omega⟩
theorem run_f {p : Int → Bool} {t : Tx} (hp : p (-1) = false) : ∀ (f g : Nat) (k : Int), 0 ≤ k → (t.2.1 - k).toNat ≤ f → (t.2.1 - k).toNat ≤ g → run p t f k = run p t g k
  | 0, 0, _, _, _, _ => rfl
  | 0, g + 1, k, h0, h, _ => by rw [run, run, if_neg (by rw [bt_out (by omega), hp]; decide)]
  | f + 1, 0, k, h0, _, h => by rw [run, run, if_neg (by rw [bt_out (by omega), hp]; decide)]
  | f + 1, g + 1, k, h0, h1, h2 => by
    rw [run, run]
    split
    · next c =>
      have hk := bt_in (t := t) (k := k) (fun w => by rw [w, hp] at c; cases c)
      exact run_f hp f g (k + 1) (by omega) (by omega) (by omega)
    · rfl
theorem rn_1 {p : Int → Bool} {t : Tx} (hp : p (-1) = false) {k : Int} (h0 : 0 ≤ k) (h : p (bt t k) = true) : rn p t k = rn p t (k + 1) := by
  have hk := bt_in (t := t) (k := k) (fun w => by rw [w, hp] at h; cases h)
  unfold rn
  rw [show (t.2.1 - k).toNat = (t.2.1 - (k + 1)).toNat + 1 by omega, run, if_pos h]
theorem rn_0 {p : Int → Bool} {t : Tx} {k : Int} (h : p (bt t k) = false) : rn p t k = k := by
  unfold rn
  cases (t.2.1 - k).toNat with
  | zero => rfl
  | succ f => rw [run, if_neg (by rw [h]; decide)]
theorem rn_b {p : Int → Bool} {t : Tx} (hp : p (-1) = false) {k : Int} (h0 : 0 ≤ k) : k ≤ rn p t k ∧ (rn p t k ≤ t.2.1 ∨ rn p t k = k) ∧ p (bt t (rn p t k)) = false ∧ ∀ j, k ≤ j → j < rn p t k → p (bt t j) = true := run_s hp _ k h0 (Nat.le_refl _)
theorem blB_n : blB (-1) = false := by decide
theorem dgB_n : dgB (-1) = false := by decide
theorem leB_n : leB (-1) = false := by decide
theorem dgB_i {x : Int} : dgB x = true ↔ dgP x := by unfold dgB dgP; exact decide_eq_true_iff
theorem leB_i {x : Int} : leB x = true ↔ (65 ≤ x ∧ x ≤ 90) := by unfold leB; exact decide_eq_true_iff
theorem plB_i {x : Int} : plB x = true ↔ (32 ≤ x ∧ x ≤ 126) := by unfold plB; exact decide_eq_true_iff
theorem blB_i {x : Int} : blB x = true ↔ x = 32 := by unfold blB; exact decide_eq_true_iff
theorem bF {b : Bool} {p : Prop} (h : b = true ↔ p) : b = false ↔ ¬ p := by
  cases b with
  | false => exact ⟨fun _ w => Bool.noConfusion (h.mpr w), fun _ => rfl⟩
  | true => exact ⟨fun w => by (cases w), fun w => absurd (h.mp rfl) w⟩
theorem skp_b {t : Tx} {k : Int} (h0 : 0 ≤ k) (h1 : k ≤ t.2.1) : k ≤ skp t k ∧ skp t k ≤ t.2.1 ∧ bt t (skp t k) ≠ 32 := by
  have := rn_b (p := blB) (t := t) blB_n h0
  unfold skp
  refine ⟨this.1, by omega, fun w => ?_⟩
  have h := this.2.2.1
  rw [w] at h; cases h
theorem skp_skp {t : Tx} {k : Int} (h0 : 0 ≤ k) (h1 : k ≤ t.2.1) : skp t (skp t k) = skp t k := by
  have := (skp_b h0 h1).2.2
  exact rn_0 ((bF blB_i).mpr this)
theorem skp_0 {t : Tx} {k : Int} (h : bt t k ≠ 32) : skp t k = k := rn_0 ((bF blB_i).mpr h)
theorem cr0_b {t : Tx} {k : Int} : k ≤ cr0 t k ∧ cr0 t k ≤ k + 1 := by unfold cr0; split <;> omega
theorem crP_b {t : Tx} {k : Int} (h : crP t k) : 0 ≤ k ∧ k + 2 ≤ crE t k ∧ crE t k ≤ t.2.1 ∧ crE t k ≤ k + 6 := by
  obtain ⟨h1, h2, h3, h4⟩ := h
  have b1 := bt_in (t := t) (k := cr0 t k) (by omega)
  have b2 := bt_in (t := t) (k := cr2 t k) (fun w => by rw [w] at h2; cases h2)
  have c1 := cr0_b (t := t) (k := k)
  have c2 := cr0_b (t := t) (k := cr0 t k + 1)
  have k0 : 0 ≤ k := by
    by_cases e : bt t k = 36
    · exact (bt_in (t := t) (k := k) (by omega)).1
    · unfold cr0 at b1; rw [if_neg e] at b1; exact b1.1
  have e2 : cr2 t k = cr0 t (cr0 t k + 1) := rfl
  refine ⟨k0, ?_, ?_, ?_⟩
  · unfold crE; split <;> omega
  · unfold crE
    split
    · next c => have := bt_in (t := t) (k := cr2 t k + 1) (fun w => by rw [w] at c; cases c); omega
    · omega
  · unfold crE; split <;> omega
theorem crF_b (t : Tx) (k : Int) : 0 ≤ crF t k ∧ crF t k ≤ 3 := by unfold crF; split <;> split <;> omega
theorem crR_b {t : Tx} {k : Int} (h : crP t k) : (0 ≤ crR t k ∧ crR t k ≤ 99) ∧ 1 ≤ crC t k ∧ crC t k ≤ 10 := by
  obtain ⟨h1, h2, h3, h4⟩ := h
  have d1 := dgB_i.mp h2
  unfold dgP at d1
  refine ⟨?_, by unfold crC; omega, by unfold crC; omega⟩
  unfold crR
  split
  · next c => have d2 := dgB_i.mp c; unfold dgP at d2; omega
  · omega
theorem vrP_b {t : Tx} {k v e : Int} (hk : 0 ≤ k) (hk1 : k ≤ t.2.1) (h : vrP t k = .inr (v, e)) : (-1 ≤ v ∧ v ≤ 99) ∧ k ≤ e ∧ e ≤ t.2.1 ∧ e ≤ k + 3 := by
  unfold vrP at h
  split at h
  · split at h
    · cases h
    · next d1 =>
      have d1' := dgB_i.mp (by cases hq : dgB (bt t (k + 1)) with
        | true => rfl
        | false => exact absurd hq d1)
      have b1 := bt_in (t := t) (k := k + 1) (fun w => by rw [w] at d1'; unfold dgP at d1'; omega)
      unfold dgP at d1'
      split at h
      · cases h; omega
      · next d2 =>
        have d2' := dgB_i.mp (by cases hq : dgB (bt t (k + 2)) with
          | true => rfl
          | false => exact absurd hq d2)
        have b2 := bt_in (t := t) (k := k + 2) (fun w => by rw [w] at d2'; unfold dgP at d2'; omega)
        unfold dgP at d2'
        split at h
        · cases h
        · cases h; omega
  · cases h; omega
theorem sgO_b (t : Tx) (k : Int) : 0 ≤ sgO t k ∧ sgO t k ≤ 12 := by
  unfold sgO
  repeat' split
  all_goals omega
theorem sgO_n {t : Tx} {k : Int} (h : sgO t k ≠ 0) : 0 ≤ k ∧ k + sgN (sgO t k) ≤ t.2.1 ∧ bt t k ≠ 58 ∧ 1 ≤ sgN (sgO t k) ∧ sgN (sgO t k) ≤ 2 := by
  have hb : bt t k ≠ -1 := by
    intro w
    apply h
    unfold sgO
    rw [w]; rfl
  have b0 := bt_in hb
  have h58 : bt t k ≠ 58 := by
    intro w
    apply h
    unfold sgO
    rw [w]; rfl
  have key : sgO t k = 2 ∨ sgO t k = 4 ∨ sgO t k = 6 → bt t (k + 1) = 62 ∨ bt t (k + 1) = 61 := by
    intro w
    unfold sgO at w
    revert w
    repeat' split
    all_goals omega
  refine ⟨b0.1, ?_, h58, ?_⟩
  · unfold sgN
    split
    · next c =>
      have := bt_in (t := t) (k := k + 1) (by have := key c; omega)
      omega
    · omega
  · unfold sgN; split <;> omega
