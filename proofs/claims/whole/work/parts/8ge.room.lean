/-! ===== the room that versions may still want ===== -/
theorem cnQ_add {p q r : Int → Prop} : ∀ n : Nat, (∀ x : Nat, x < n → p x → r x ∧ ¬ q x) → (∀ x : Nat, x < n → q x → r x) → cnQ p n + cnQ q n ≤ cnQ r n
  | 0, _, _ => Nat.le_refl _
  | n + 1, h1, h2 => by
    have ih := cnQ_add n (fun x hx => h1 x (by omega)) (fun x hx => h2 x (by omega))
    have a := h1 n (by omega)
    have c := h2 n (by omega)
    rw [cnQ, cnQ, cnQ]
    by_cases cp : p n
    · have := a cp
      rw [cb_1 cp, cb_0 this.2, cb_1 this.1]
      show _ + 1 + (_ + 0) ≤ _ + 1
      omega
    · rw [cb_0 cp]
      by_cases cq : q n
      · rw [cb_1 cq, cb_1 (c cq)]
        show _ + 0 + (_ + 1) ≤ _ + 1
        omega
      · rw [cb_0 cq]
        show _ + 0 + (_ + 0) ≤ _
        omega
noncomputable def ptZ (z : Z) (b : Nat → Nat) (S : SS) : Nat := cnQ (fun v => UnV z b v) S.2.1.1.toNat
section Pt
variable {z y : Z} {b : Nat → Nat} {S S' : SS}
theorem pt_e (h : ∀ v, 0 ≤ v → v < S.2.1.1 → (UnV y b v ↔ UnV z b v)) (e : S'.2.1.1 = S.2.1.1) : ptZ y b S' = ptZ z b S := by
  unfold ptZ
  rw [e]
  exact cnQ_e _ (fun x hx => h x (by omega) (by omega))
theorem pt_com (h : ∀ v, 0 ≤ v → v < S.2.1.1 → (UnV y b v ↔ UnV z b v)) (n0 : 0 ≤ S.2.1.1) (e : S'.2.1.1 = S.2.1.1 + 1) : ptZ y b S' ≤ ptZ z b S + 1 := by
  unfold ptZ
  rw [e, show (S.2.1.1 + 1).toNat = S.2.1.1.toNat + 1 by omega, cnQ]
  have q : cnQ (fun v => UnV y b v) S.2.1.1.toNat = cnQ (fun v => UnV z b v) S.2.1.1.toNat := cnQ_e _ (fun x hx => h x (by omega) (by omega))
  rw [q]
  by_cases c : UnV y b (S.2.1.1.toNat : Int)
  · rw [cb_1 c]; exact Nat.le_refl _
  · rw [cb_0 c]; exact Nat.le_succ _
theorem pt_ne {v : Int} {N : Nat} (hN : (N : Int) = S.2.1.1) (h : ∀ w, 0 ≤ w → w < S.2.1.1 → (UnV y b w ↔ (UnV z b w ∧ ¬ NeW z b S (shOf v S) w.toNat ∧ w ≠ v))) : ptZ y b S + coN z b S (shOf v S) N ≤ ptZ z b S := by
  have e : S.2.1.1.toNat = N := by omega
  unfold ptZ coN
  rw [e]
  refine cnQ_add N (fun x hx p => ?_) (fun x hx q => q.2)
  have := (h x (by omega) (by omega)).mp p
  exact ⟨this.1, fun q => this.2.1 q.1⟩
end Pt
/-- the room that n calls may want; q versions are not worked out -/
def RmE (n : Nat) (q : Nat) (S : SS) (mc ms : Nat) : Prop := 645 * (n : Int) + 641 * (q : Int) + 3 * S.1.1 + 3 * (60000 - S.2.2.1.2.2.2.1) ≤ (mc : Int) ∧ 9668 * (n : Int) + 9280 * (q : Int) + 14 * S.1.1 + 13 * (60000 - S.2.2.1.2.2.2.1) ≤ (ms : Int)
