/-! ===== what the pure parser gives ===== -/
def PoS (t : Tx) (nv : Int) (ps0 : List Prt) (st s : PS) : Prop := (Seg ps0 s.2.1 ∧ lastO s.2.1 ≠ 17) ∧ (s.1 ≤ t.2.1 ∧ bt t s.1 ≠ 32) ∧ (s.2.1.length : Int) - s.1 ≤ (st.2.1.length : Int) - st.1 ∧ (s.2.2.1 = 0 → st.2.2.1 = 0 ∧ (GdW nv st.2.1 → GdW nv s.2.1))
def OkS (t : Tx) (st : PS) : Prop := (0 ≤ st.1 ∧ st.1 ≤ t.2.1) ∧ SpF st.2.1
theorem PoS_leaf {t : Tx} {nv : Int} {st : PS} {p : Prt} {e : Int} (h : OkS t st) (h0 : p.2.1 = 0) (hp : p.1 ≠ 17) (e1 : st.1 < e) (e2 : e ≤ t.2.1) (w : WfP p) (v : p.2.2.2.2.2 < nv) : PoS t nv st.2.1 st (addP p (skp t e) st) ∧ st.1 < (addP p (skp t e) st).1 := by
  have b := skp_b (t := t) (k := e) (by have := h.1.1; omega) e2
  unfold addP
  refine ⟨⟨⟨Seg_leaf h.2 h0, by show lastO (st.2.1 ++ [p]) ≠ 17; rw [lastO_snoc]; exact hp⟩, ⟨b.2.1, b.2.2⟩, ?_, fun l0 => ⟨l0, fun g => GdW_snoc h.2 g w v (fun k hk => by omega) (fun _ => h0)⟩⟩, by show st.1 < skp t e; omega⟩
  show ((st.2.1 ++ [p]).length : Int) - skp t e ≤ _
  rw [List.length_append, List.length_singleton]; omega
theorem WfP_op {op n : Int} (h1 : 1 ≤ op ∧ op ≤ 35) (h2 : ¬ (14 ≤ op ∧ op ≤ 17) ∨ op = 15) (h3 : argL op ≤ n ∧ n ≤ argM op) : WfP (opP op n) := by
  unfold opP WfP
  refine ⟨h1, by show op ≠ 14; omega, ⟨Int.le_refl 0, by show (0 : Int) ≤ 15; decide⟩, fun w => ?_, h3, ?_⟩
  · have : op = 16 := w
    omega
  · rw [if_neg (by show ¬ (op = 16 ∨ op = 17); omega)]
    exact ⟨rfl, rfl⟩
theorem WfP_lit {l : Lit} (h : WfL l) : WfP (litP l) := by
  unfold litP WfP
  refine ⟨⟨by show (1 : Int) ≤ 14; decide, by show (14 : Int) ≤ 35; decide⟩, ⟨rfl, h⟩, ⟨Int.le_refl 0, by show (0 : Int) ≤ 15; decide⟩, ?_, ⟨by show argL 14 ≤ 0; decide, by show 0 ≤ argM 14; decide⟩, ?_⟩
  · intro h16
    have h16 : (14 : Int) = 16 := h16
    omega
  · rw [if_neg (by show ¬ ((14 : Int) = 16 ∨ (14 : Int) = 17); decide)]; exact ⟨rfl, rfl⟩
theorem numV_b {t : Tx} : ∀ (n : Nat) (k a : Int), (∀ j, k ≤ j → j < k + n → dgP (bt t j)) → ∀ m : Nat, 0 ≤ a → a < 10 ^ m → 0 ≤ numV t n k a ∧ numV t n k a < 10 ^ (m + n)
  | 0, k, a, _, m, h0, h1 => ⟨h0, h1⟩
  | n + 1, k, a, hd, m, h0, h1 => by
    have d := hd k (by omega) (by omega)
    unfold dgP at d
    rw [numV]
    have := numV_b n (k + 1) (a * 10 + bt t k - 48) (fun j a b => hd j (by omega) (by omega)) (m + 1) (by omega) (by rw [Int.pow_succ]; omega)
    rw [show m + 1 + n = m + (n + 1) by omega] at this
    exact this
theorem pow15 : ∀ n : Nat, n ≤ 15 → (10 : Int) ^ n ≤ 1000000000000000 := by decide
theorem pNum_f {t : Tx} {nv : Int} {st s : PS} (h : OkS t st) (hd : dgB (bt t st.1) = true) (n0 : 0 ≤ nv) (e : pNum t st = .inr s) : PoS t nv st.2.1 st s ∧ st.1 < s.1 := by
  have b0 := rn_b (p := dgB) (t := t) dgB_n h.1.1
  have b1 := rn_1 (t := t) dgB_n h.1.1 hd
  have b2 := rn_b (p := dgB) (t := t) (k := st.1 + 1) dgB_n (by have := h.1.1; omega)
  have bi := bt_in (t := t) (k := st.1) (fun w => by rw [w] at hd; cases hd)
  unfold pNum at e
  split at e
  · cases e
  · next c =>
    cases e
    have nb := numV_b (t := t) (rn dgB t st.1 - st.1).toNat st.1 0 (fun j a b => dgB_i.mp (b0.2.2.2 j a (by omega))) 0 (by decide) (by decide)
    have p15 := pow15 (0 + (rn dgB t st.1 - st.1).toNat) (by omega)
    have wl : WfL (1, numV t (rn dgB t st.1 - st.1).toNat st.1 0, []) := by
      refine ⟨⟨by show (1 : Int) ≤ 1; decide, by show (1 : Int) ≤ 3; decide⟩, fun _ => ⟨by show -1000000000000000 < numV _ _ _ _; omega, by show numV _ _ _ _ < 1000000000000000; omega⟩, ?_, ?_, fun _ => rfl, by show 0 ≤ 24; omega, ?_⟩
      · intro h3
        have h3 : (1 : Int) = 3 := h3
        omega
      · intro h2
        have h2 : (1 : Int) = 2 := h2
        omega
      · intro x hx
        cases hx
    exact PoS_leaf h rfl (by show (14 : Int) ≠ 17; decide) (by omega) (by omega) (WfP_lit wl) (by show (-1 : Int) < nv; omega)
theorem qu_f {t : Tx} {k0 : Int} : ∀ (f : Nat) (i r : Int), k0 + 1 ≤ i → i ≤ k0 + 25 → 0 ≤ k0 → (∀ j, k0 + 1 ≤ j → j < i → plB (bt t j) = true) → qu t k0 f i = .inr r → i ≤ r ∧ r ≤ k0 + 25 ∧ r < t.2.1 ∧ bt t r = 34 ∧ ∀ j, k0 + 1 ≤ j → j < r → plB (bt t j) = true
  | 0, _, _, _, _, _, _, e => by cases e
  | f + 1, i, r, h1, h2, h3, h4, e => by
    rw [qu] at e
    split at e
    · next c =>
      cases e
      have := bt_in (t := t) (k := i) (by omega)
      exact ⟨Int.le_refl i, h2, this.2, c, h4⟩
    · split at e
      · cases e
      · split at e
        · cases e
        · split at e
          · cases e
          · next c1 c2 c3 c4 =>
            have q := qu_f f (i + 1) r (by omega) (by omega) h3 (fun j a b => by
              by_cases ej : j = i
              · rw [ej]; cases hq : plB (bt t i) with
                | true => rfl
                | false => exact absurd hq c4
              · exact h4 j a (by omega)) e
            exact ⟨by omega, q.2⟩
theorem subL_len {t : Tx} {a : Int} {n : Nat} : (subL t a n).length = n := by unfold subL; rw [List.length_map, List.length_range]
theorem subL_at {t : Tx} {a : Int} {n j : Nat} (h : j < n) : (subL t a n).getD j 0 = bt t (a + j) := by
  unfold subL
  rw [List.getD_eq_getElem?_getD, List.getElem?_map, List.getElem?_range h]; rfl
theorem subL_mem {t : Tx} {a : Int} {n : Nat} {x : Int} (h : x ∈ subL t a n) : ∃ j : Nat, j < n ∧ x = bt t (a + j) := by
  unfold subL at h
  rw [List.mem_map] at h
  obtain ⟨j, hj, e⟩ := h
  exact ⟨j, List.mem_range.mp hj, e.symm⟩
theorem pQuo_f {t : Tx} {nv : Int} {st s : PS} (h : OkS t st) (n0 : 0 ≤ nv) (e : pQuo t st = .inr s) : PoS t nv st.2.1 st s ∧ st.1 < s.1 := by
  unfold pQuo at e
  have h0 := h.1.1
  split at e
  · cases e
  · next i hq =>
    cases e
    obtain ⟨q1, q2, q3, q4, q5⟩ := qu_f _ _ _ (Int.le_refl _) (by omega) h0 (fun j a b => by omega) hq
    have wl : WfL (2, 0, subL t (st.1 + 1) (i - (st.1 + 1)).toNat) := by
      refine ⟨⟨by show (1 : Int) ≤ 2; decide, by show (2 : Int) ≤ 3; decide⟩, ?_, ?_, fun _ => rfl, fun h2 => absurd rfl h2, ?_, fun x hx => ?_⟩
      · intro h2
        have h2 : (2 : Int) = 1 := h2
        omega
      · intro h2
        have h2 : (2 : Int) = 3 := h2
        omega
      · show (subL t (st.1 + 1) (i - (st.1 + 1)).toNat).length ≤ 24
        rw [subL_len]; omega
      · obtain ⟨j, hj, ex⟩ := subL_mem hx
        have := plB_i.mp (q5 (st.1 + 1 + j) (by omega) (by omega))
        omega
    exact PoS_leaf h rfl (by show (14 : Int) ≠ 17; decide) (by omega) (by omega) (WfP_lit wl) (by show (-1 : Int) < nv; omega)
