/-! ===== rows of bits ===== -/
def bitL (x : Int) (i : Nat) : Bool := (Int64.ofInt x).toBitVec.getLsbD i
theorem bit_or (a c : Int) (i : Nat) : bitL (lOr a c) i = (bitL a i || bitL c i) := by
  unfold bitL lOr
  rw [Int64.ofInt_toInt, Int64.toBitVec_or, BitVec.getLsbD_or]
theorem bit_and (a c : Int) (i : Nat) : bitL (lAnd a c) i = (bitL a i && bitL c i) := by
  unfold bitL lAnd
  rw [Int64.ofInt_toInt, Int64.toBitVec_and, BitVec.getLsbD_and]
theorem bit_xor (a c : Int) (i : Nat) : bitL (lXor a c) i = (bitL a i ^^ bitL c i) := by
  unfold bitL lXor
  rw [Int64.ofInt_toInt, Int64.toBitVec_xor, BitVec.getLsbD_xor]
theorem bit_shl : ∀ k : Nat, k < 64 → ∀ i : Nat, i < 64 → bitL (lShl 1 (k : Int)) i = decide (i = k) := by decide +kernel
theorem bit_m1 : ∀ i : Nat, i < 64 → bitL (-1) i = true := by decide +kernel
theorem bit_0 (i : Nat) : bitL 0 i = false := by
  unfold bitL
  show (0#64).getLsbD i = false
  exact BitVec.getLsbD_zero
theorem bit_big {x : Int} {i : Nat} (h : 64 ≤ i) : bitL x i = false := by unfold bitL; exact BitVec.getLsbD_of_ge _ _ h
theorem shr_k : ∀ k : Nat, k < 64 → (((Int32.ofInt (k : Int)).toInt64 &&& 63).toBitVec.smod 64).toNat = k := by decide +kernel
theorem bit_shr {x : Int} {k : Nat} (h : k < 64) : bitL (lShr x (k : Int)) 0 = bitL x k := by
  unfold bitL lShr
  rw [Int64.ofInt_toInt, Int64.toBitVec_shiftRight, BitVec.sshiftRight_eq', shr_k k h, BitVec.getLsbD_sshiftRight]
  simp [h]
theorem and_1 (x : Int) : lAnd x 1 = if bitL x 0 = true then 1 else 0 := by
  have e : Int64.ofInt x &&& Int64.ofInt 1 = if bitL x 0 = true then 1 else 0 := by
    apply Int64.toBitVec_inj.mp
    rw [Int64.toBitVec_and]
    apply BitVec.eq_of_getLsbD_eq
    intro i hi
    rw [BitVec.getLsbD_and]
    have h1 : (Int64.ofInt 1).toBitVec.getLsbD i = decide (i = 0) := by
      have : ∀ i : Nat, i < 64 → (Int64.ofInt 1).toBitVec.getLsbD i = decide (i = 0) := by decide +kernel
      exact this i hi
    rw [h1]
    unfold bitL
    by_cases c : i = 0
    · subst c
      cases hb : (Int64.ofInt x).toBitVec.getLsbD 0 with
      | true => rfl
      | false => rfl
    · rw [decide_eq_false c, Bool.and_false]
      split
      · have : ∀ i : Nat, i < 64 → i ≠ 0 → (1 : Int64).toBitVec.getLsbD i = false := by decide +kernel
        exact (this i hi c).symm
      · have : ∀ i : Nat, i < 64 → (0 : Int64).toBitVec.getLsbD i = false := by decide +kernel
        exact (this i hi).symm
  unfold lAnd
  rw [e]
  split <;> rfl
theorem tst_k {x k : Int} (h0 : 0 ≤ k) (h1 : k < 64) : lAnd (lShr x k) 1 = if bitL x k.toNat = true then 1 else 0 := by
  have e := bit_shr (x := x) (k := k.toNat) (by omega)
  rw [Int.toNat_of_nonneg h0] at e
  rw [and_1, e]
theorem eq_0b {x : Int} (h : ∃ v : Int64, x = v.toInt) : x = 0 ↔ ∀ i : Nat, i < 64 → bitL x i = false := by
  obtain ⟨v, rfl⟩ := h
  constructor
  · intro e i _
    rw [e, bit_0]
  · intro hb
    have : v = 0 := by
      apply Int64.toBitVec_inj.mp
      apply BitVec.eq_of_getLsbD_eq
      intro i hi
      have := hb i hi
      unfold bitL at this
      rw [Int64.ofInt_toInt] at this
      rw [this]
      have h0 : ∀ i : Nat, i < 64 → (0 : Int64).toBitVec.getLsbD i = false := by decide +kernel
      exact (h0 i hi).symm
    rw [this]; rfl
theorem and_0 (a c : Int) : lAnd a c = 0 ↔ ∀ i : Nat, i < 64 → ¬ (bitL a i = true ∧ bitL c i = true) := by
  rw [eq_0b (x := lAnd a c) ⟨_, rfl⟩]
  constructor
  · rintro h i hi ⟨h1, h2⟩
    have := h i hi
    rw [bit_and, h1, h2] at this; cases this
  · intro h i hi
    rw [bit_and]
    have := h i hi
    cases h1 : bitL a i <;> cases h2 : bitL c i <;> first | rfl | exact absurd ⟨h1, h2⟩ this
theorem andn_0 (a c : Int) : lAnd a (lXor c (-1)) = 0 ↔ ∀ i : Nat, i < 64 → bitL a i = true → bitL c i = true := by
  rw [and_0]
  constructor
  · intro h i hi h1
    have := h i hi
    rw [bit_xor, bit_m1 i hi] at this
    cases h2 : bitL c i with
    | true => rfl
    | false => exact absurd ⟨h1, by rw [h2]; rfl⟩ this
  · rintro h i hi ⟨h1, h2⟩
    rw [bit_xor, bit_m1 i hi, h i hi h1] at h2
    cases h2
/-- bit j of row k, five words a row -/
def BtR (g : Int → Int) (k j : Int) : Prop := bitL (g (5 * k + j / 64)) (j % 64).toNat = true
theorem BtR_set {g g' : Int → Int} {k j k' j' : Int} (j0 : 0 ≤ j) (j1 : j < 320) (j0' : 0 ≤ j') (j1' : j' < 320) (e : g' (5 * k + j / 64) = lOr (g (5 * k + j / 64)) (lShl 1 (j % 64))) (e2 : ∀ i, i ≠ 5 * k + j / 64 → g' i = g i) : BtR g' k' j' ↔ (BtR g k' j' ∨ (k' = k ∧ j' = j)) := by
  unfold BtR
  by_cases c : 5 * k' + j' / 64 = 5 * k + j / 64
  · have s := bit_shl (j % 64).toNat (by omega) (j' % 64).toNat (by omega)
    rw [Int.toNat_of_nonneg (by omega)] at s
    rw [c, e, bit_or, s, Bool.or_eq_true, decide_eq_true_iff]
    constructor
    · rintro (h | h)
      · exact Or.inl h
      · exact Or.inr (by omega)
    · rintro (h | h)
      · exact Or.inl h
      · exact Or.inr (by omega)
  · rw [e2 _ c]
    constructor
    · exact fun h => Or.inl h
    · rintro (h | ⟨h1, h2⟩)
      · exact h
      · exact absurd (by rw [h1, h2]) c
theorem BtR_or {g g' : Int → Int} {k b k' j : Int} (j0 : 0 ≤ j) (j1 : j < 320) (e : ∀ w, 0 ≤ w → w < 5 → g' (5 * k + w) = lOr (g (5 * k + w)) (g (5 * b + w))) (e2 : ∀ i, (∀ w, 0 ≤ w → w < 5 → i ≠ 5 * k + w) → g' i = g i) : BtR g' k' j ↔ (BtR g k' j ∨ (k' = k ∧ BtR g b j)) := by
  unfold BtR
  by_cases c : k' = k
  · subst c
    rw [e (j / 64) (by omega) (by omega), bit_or, Bool.or_eq_true]
    constructor
    · rintro (h | h)
      · exact Or.inl h
      · exact Or.inr ⟨rfl, h⟩
    · rintro (h | h)
      · exact Or.inl h
      · exact Or.inr h.2
  · rw [e2 _ (fun w h0 h1 => by omega)]
    constructor
    · exact fun h => Or.inl h
    · rintro (h | h)
      · exact h
      · exact absurd h.1 c
/-! one row -/
def BtW (g : Int → Int) (j : Int) : Prop := bitL (g (j / 64)) (j % 64).toNat = true
theorem BtW_set {g g' : Int → Int} {j j' : Int} (j0 : 0 ≤ j) (j1 : j < 320) (j0' : 0 ≤ j') (j1' : j' < 320) (e : g' (j / 64) = lOr (g (j / 64)) (lShl 1 (j % 64))) (e2 : ∀ i, i ≠ j / 64 → g' i = g i) : BtW g' j' ↔ (BtW g j' ∨ j' = j) := by
  unfold BtW
  by_cases c : j' / 64 = j / 64
  · have s := bit_shl (j % 64).toNat (by omega) (j' % 64).toNat (by omega)
    rw [Int.toNat_of_nonneg (by omega)] at s
    rw [c, e, bit_or, s, Bool.or_eq_true, decide_eq_true_iff]
    constructor
    · rintro (h | h)
      · exact Or.inl h
      · exact Or.inr (by omega)
    · rintro (h | h)
      · exact Or.inl h
      · exact Or.inr (by omega)
  · rw [e2 _ c]
    constructor
    · exact fun h => Or.inl h
    · rintro (h | h)
      · exact h
      · exact absurd (by rw [h]) c
theorem BtW_clr {g g' : Int → Int} {j j' : Int} (j0 : 0 ≤ j) (j1 : j < 320) (j0' : 0 ≤ j') (j1' : j' < 320) (e : g' (j / 64) = lAnd (g (j / 64)) (lXor (lShl 1 (j % 64)) (-1))) (e2 : ∀ i, i ≠ j / 64 → g' i = g i) : BtW g' j' ↔ (BtW g j' ∧ j' ≠ j) := by
  unfold BtW
  by_cases c : j' / 64 = j / 64
  · have s := bit_shl (j % 64).toNat (by omega) (j' % 64).toNat (by omega)
    rw [Int.toNat_of_nonneg (by omega)] at s
    rw [c, e, bit_and, bit_xor, bit_m1 _ (by omega), s, Bool.and_eq_true]
    constructor
    · rintro ⟨h1, h2⟩
      refine ⟨h1, fun w => ?_⟩
      rw [w, decide_eq_true rfl] at h2
      cases h2
    · rintro ⟨h1, h2⟩
      refine ⟨h1, ?_⟩
      rw [decide_eq_false (by omega)]; rfl
  · rw [e2 _ c]
    constructor
    · exact fun h => ⟨h, fun w => c (by rw [w])⟩
    · exact fun h => h.1
