/-! ===== trailing zeros ===== -/
theorem pw_odd (y : Nat) : 0 < y → ∃ k m : Nat, y = 2 ^ (k + 1) * m + 2 ^ k := by
  induction y using Nat.strongRecOn with
  | _ y ih =>
    intro h
    by_cases c : y % 2 = 1
    · exact ⟨0, y / 2, by show y = 2 * (y / 2) + 1; omega⟩
    · obtain ⟨k, m, e⟩ := ih (y / 2) (by omega) (by omega)
      refine ⟨k + 1, m, ?_⟩
      have e2 : y = 2 * (y / 2) := by omega
      rw [e2, e, Nat.mul_add, ← Nat.mul_assoc]
      rw [Nat.pow_succ 2 (k + 1), Nat.pow_succ 2 k, Nat.mul_comm (2 ^ k) 2, Nat.mul_comm (2 * 2 ^ k) 2]
theorem ntz_n {k m : Nat} (hk : k < 32) (h : 2 ^ (k + 1) * m + 2 ^ k < 2 ^ 32) : (2 ^ 32 - (2 ^ (k + 1) * m + 2 ^ k + 1)) &&& (2 ^ (k + 1) * m + (2 ^ k - 1)) = 2 ^ k - 1 := by
  have hp : 0 < 2 ^ k := Nat.pow_pos (by decide)
  have h2 : 2 ^ (k + 1) = 2 * 2 ^ k := by rw [Nat.pow_succ, Nat.mul_comm]
  apply Nat.eq_of_testBit_eq
  intro i
  rw [Nat.testBit_and, Nat.testBit_two_pow_sub_succ h, Nat.testBit_two_pow_mul_add m (b := 2 ^ k) (by omega), Nat.testBit_two_pow_mul_add m (b := 2 ^ k - 1) (by omega), Nat.testBit_two_pow_sub_one, Nat.testBit_two_pow]
  by_cases c1 : i < k + 1
  · rw [if_pos c1, if_pos c1]
    by_cases c2 : i < k
    · rw [decide_eq_true (show i < 32 by omega), decide_eq_true c2, decide_eq_false (show ¬ k = i by omega)]; rfl
    · rw [decide_eq_false c2, Bool.and_false]
  · rw [if_neg c1, if_neg c1, decide_eq_false (show ¬ i < k by omega)]
    cases m.testBit (i - (k + 1)) <;> simp
def n74 (x0 x1 : Int) : Int := w32 (x1 + (bUshr x0 1))
def n62 (x0 x1 : Int) : Int := if x0 ≤ 4 then n74 x0 x1 else n74 (bUshr x0 2) (w32 (x1 + 2))
def n49 (x0 x1 : Int) : Int := if x0 ≤ 16 then n62 x0 x1 else n62 (bUshr x0 4) (w32 (x1 + 4))
def n34 (x0 x1 : Int) : Int := if x0 ≤ 256 then n49 x0 x1 else n49 (bUshr x0 8) (w32 (x1 + 8))
def nJ6 (i : Int) : Int := if 0 < i then (if i ≤ 65536 then n34 i 1 else n34 (bUshr i 16) (w32 (1 + 16))) else bAnd i 32
theorem nJ6_k : ∀ k : Nat, k < 32 → nJ6 ((2 ^ k - 1 : Nat) : Int) = (k : Int) := by decide +kernel
theorem f62 {x0 x1 : Int} {P : Int → Prop} (h : P (n62 x0 x1)) : F_J6_numberOfTrailingZeros_0f7a4_62 x0 x1 P := by
  unfold F_J6_numberOfTrailingZeros_0f7a4_62 F_J6_numberOfTrailingZeros_0f7a4_74
  unfold n62 n74 at h
  split
  · next c => rw [if_pos c] at h; exact h
  · next c => rw [if_neg c] at h; exact h
theorem f49 {x0 x1 : Int} {P : Int → Prop} (h : P (n49 x0 x1)) : F_J6_numberOfTrailingZeros_0f7a4_49 x0 x1 P := by
  unfold F_J6_numberOfTrailingZeros_0f7a4_49
  unfold n49 at h
  split
  · next c => rw [if_pos c] at h; exact f62 h
  · next c => rw [if_neg c] at h; exact f62 h
theorem f34 {x0 x1 : Int} {P : Int → Prop} (h : P (n34 x0 x1)) : F_J6_numberOfTrailingZeros_0f7a4_34 x0 x1 P := by
  unfold F_J6_numberOfTrailingZeros_0f7a4_34
  unfold n34 at h
  split
  · next c => rw [if_pos c] at h; exact f49 h
  · next c => rw [if_neg c] at h; exact f49 h
theorem fJ6 {x : Int} {P : Int → Prop} (h : P (nJ6 (bAnd (bXor x (-1)) (w32 (x - 1))))) : F_J6_numberOfTrailingZeros_0f7a4 x P := by
  unfold F_J6_numberOfTrailingZeros_0f7a4
  unfold nJ6 at h
  split
  · next c =>
    rw [if_pos c] at h
    split
    · next d => rw [if_pos d] at h; exact f34 h
    · next d => rw [if_neg d] at h; exact f34 h
  · next c => rw [if_neg c] at h; exact h
theorem ntz_v {Y : BitVec 32} {k m : Nat} (hk : k < 32) (hY : Y.toNat = 2 ^ (k + 1) * m + 2 ^ k) : ((Y ^^^ BitVec.allOnes 32) &&& (Y - 1#32)).toInt = ((2 ^ k - 1 : Nat) : Int) := by
  have hp : 0 < 2 ^ k := Nat.pow_pos (by decide)
  have hl := Y.isLt
  have e : ((Y ^^^ BitVec.allOnes 32) &&& (Y - 1#32)).toNat = 2 ^ k - 1 := by
    rw [BitVec.xor_allOnes, BitVec.toNat_and, BitVec.toNat_not, BitVec.toNat_sub]
    have s1 : (2 ^ 32 - (1#32).toNat + Y.toNat) % 2 ^ 32 = Y.toNat - 1 := by
      show (2 ^ 32 - 1 + Y.toNat) % 2 ^ 32 = Y.toNat - 1
      omega
    rw [s1, show 2 ^ 32 - 1 - Y.toNat = 2 ^ 32 - (Y.toNat + 1) by omega, hY, show 2 ^ (k + 1) * m + 2 ^ k - 1 = 2 ^ (k + 1) * m + (2 ^ k - 1) by omega]
    exact ntz_n hk (by rw [← hY]; exact hl)
  have hb : 2 ^ k ≤ 2 ^ 31 := Nat.pow_le_pow_right (by decide) (by omega)
  rw [BitVec.toInt_eq_toNat_of_lt (by rw [e]; omega), e]
theorem b32_w (x : Int) : (Int32.ofInt (w32 x)).toBitVec = BitVec.ofInt 32 x := by
  show BitVec.ofInt 32 (w32 x) = BitVec.ofInt 32 x
  apply BitVec.eq_of_toInt_eq
  rw [BitVec.toInt_ofInt, BitVec.toInt_ofInt]
  unfold w32
  exact Int.bmod_bmod
theorem nt6 {x : Int} {P : Int → Prop} (hx : BitVec.ofInt 32 x ≠ 0#32) (h : ∀ r : Nat, r < 32 → (BitVec.ofInt 32 x).getLsbD r = true → P r) : F_J6_numberOfTrailingZeros_0f7a4 x P := by
  have hp : 0 < (BitVec.ofInt 32 x).toNat := by
    have : (BitVec.ofInt 32 x).toNat ≠ 0 := fun w => hx (BitVec.eq_of_toNat_eq w)
    omega
  obtain ⟨k, m, e⟩ := pw_odd _ hp
  have hl := (BitVec.ofInt 32 x).isLt
  have hk : k < 32 := by
    by_cases c : k < 32
    · exact c
    · have : 2 ^ 32 ≤ 2 ^ k := Nat.pow_le_pow_right (by decide) (by omega)
      omega
  have em : bAnd (bXor x (-1)) (w32 (x - 1)) = ((2 ^ k - 1 : Nat) : Int) := by
    unfold bAnd bXor
    rw [Int32.ofInt_toInt]
    show ((Int32.ofInt x ^^^ Int32.ofInt (-1)) &&& Int32.ofInt (w32 (x - 1))).toBitVec.toInt = _
    rw [Int32.toBitVec_and, Int32.toBitVec_xor, b32_w]
    have e1 : BitVec.ofInt 32 (x - 1) = BitVec.ofInt 32 x - 1#32 := by
      apply BitVec.eq_of_toNat_eq
      rw [BitVec.toNat_sub, BitVec.toNat_ofInt, BitVec.toNat_ofInt]
      show ((x - 1) % 4294967296).toNat = (4294967296 - 1 + (x % 4294967296).toNat) % 4294967296
      omega
    rw [e1]
    exact ntz_v hk e
  refine fJ6 ?_
  rw [em, nJ6_k k hk]
  refine h k hk ?_
  unfold BitVec.getLsbD
  rw [e, Nat.testBit_two_pow_mul_add m (b := 2 ^ k) (by have : 2 ^ (k + 1) = 2 * 2 ^ k := by { rw [Nat.pow_succ, Nat.mul_comm] }; have := Nat.pow_pos (n := k) (show 0 < 2 by decide); omega), if_pos (by omega), Nat.testBit_two_pow]
  exact decide_eq_true rfl
theorem nt13 {x : Int} {P : Int → Prop} (hx : ∃ i : Nat, i < 64 ∧ bitL x i = true) (h : ∀ r : Int, 0 ≤ r → r < 64 → bitL x r.toNat = true → P r) : F_J13_numberOfTrailingZeros_95d88 x P := by
  unfold F_J13_numberOfTrailingZeros_95d88 F_J13_numberOfTrailingZeros_95d88_25
  have lo : ∀ r : Nat, r < 32 → (BitVec.ofInt 32 x).getLsbD r = bitL x r := fun r hr => by
    unfold bitL
    show (BitVec.ofInt 32 x).toNat.testBit r = (BitVec.ofInt 64 x).toNat.testBit r
    have e : (BitVec.ofInt 32 x).toNat = (BitVec.ofInt 64 x).toNat % 2 ^ 32 := by
      rw [BitVec.toNat_ofInt, BitVec.toNat_ofInt]
      show (x % 4294967296).toNat = (x % 18446744073709551616).toNat % 4294967296
      omega
    rw [e, Nat.testBit_mod_two_pow, decide_eq_true hr, Bool.true_and]
  have hi : ∀ r : Nat, r < 32 → (BitVec.ofInt 32 (lUshr x 32)).getLsbD r = bitL x (r + 32) := fun r hr => by
    have e0 : ((Int64.ofInt x).toUInt64 >>> ((Int32.ofInt 32).toInt64.toUInt64 &&& Int64.toUInt64 63)).toBitVec = (BitVec.ofInt 64 x) >>> (32 : Nat) := by
      rw [UInt64.toBitVec_shiftRight]
      rfl
    unfold bitL lUshr
    show (BitVec.ofInt 32 ((Int64.ofInt x).toUInt64 >>> ((Int32.ofInt 32).toInt64.toUInt64 &&& Int64.toUInt64 63)).toBitVec.toInt).toNat.testBit r = (BitVec.ofInt 64 x).toNat.testBit (r + 32)
    rw [e0]
    have e : (BitVec.ofInt 32 ((BitVec.ofInt 64 x) >>> (32 : Nat)).toInt).toNat = ((BitVec.ofInt 64 x).toNat >>> 32) % 2 ^ 32 := by
      rw [BitVec.toNat_ofInt, ← BitVec.toNat_ushiftRight]
      generalize (BitVec.ofInt 64 x) >>> (32 : Nat) = W
      have hl := W.isLt
      rw [BitVec.toInt_eq_toNat_cond]
      show ((if 2 * W.toNat < 18446744073709551616 then (W.toNat : Int) else (W.toNat : Int) - 18446744073709551616) % 4294967296).toNat = W.toNat % 4294967296
      split <;> omega
    rw [e, Nat.testBit_mod_two_pow, decide_eq_true hr, Bool.true_and, Nat.testBit_shiftRight, Nat.add_comm]
  have w0 : w32 x = 0 ↔ BitVec.ofInt 32 x = 0#32 := by
    constructor
    · intro w
      have := b32_w x
      rw [w] at this
      rw [← this]; rfl
    · intro w
      have := congrArg BitVec.toInt w
      rw [BitVec.toInt_ofInt] at this
      exact this
  by_cases c : w32 x = 0
  · rw [if_pos c]
    have c' := w0.mp c
    obtain ⟨i, i64, ib⟩ := hx
    have i32 : 32 ≤ i := by
      by_cases q : i < 32
      · have := lo i q
        rw [c', ib] at this
        simp at this
      · omega
    have e2 : BitVec.ofInt 32 (w32 (lUshr x 32)) = BitVec.ofInt 32 (lUshr x 32) := b32_w _
    refine nt6 ?_ (fun r hr hb => ?_)
    · intro w
      rw [e2] at w
      have := hi (i - 32) (by omega)
      rw [w, show i - 32 + 32 = i by omega, ib] at this
      simp at this
    · rw [e2, hi r hr] at hb
      rw [w32e (x := 32 + (r : Int)) (by omega) (by omega)]
      refine h _ (by omega) (by omega) ?_
      rw [show (32 + (r : Int)).toNat = r + 32 by omega]; exact hb
  · rw [if_neg c]
    have e2 : BitVec.ofInt 32 (w32 x) = BitVec.ofInt 32 x := b32_w _
    refine nt6 (fun w => c (w0.mpr (by rw [← e2]; exact w))) (fun r hr hb => ?_)
    rw [e2, lo r hr] at hb
    refine h _ (by omega) (by omega) ?_
    rw [Int.toNat_natCast]; exact hb
