/-! ===== base of the system: the highest bit ===== -/
theorem bUshr_n {a k : Nat} {kI : Int} {c : UInt32} (hI : kI = (k : Int)) (ha : a < 2 ^ 31) (hc : ((Int32.ofInt (k : Int)).toUInt32 &&& Int32.toUInt32 31) = c) (hk : c.toNat % 32 = k) : bUshr (a : Int) kI = ((a / 2 ^ k : Nat) : Int) := by
  subst hI
  have e1 : bUshr (a : Int) (k : Int) = (((Int32.ofInt (a : Int)).toUInt32 >>> ((Int32.ofInt (k : Int)).toUInt32 &&& Int32.toUInt32 31)).toBitVec).toInt := rfl
  rw [e1, hc]
  have e2 : (((Int32.ofInt (a : Int)).toUInt32 >>> c).toBitVec).toNat = a / 2 ^ k := by
    show ((Int32.ofInt (a : Int)).toUInt32 >>> c).toNat = _
    rw [UInt32.toNat_shiftRight, hk, Nat.shiftRight_eq_div_pow]
    congr 1
    show (BitVec.ofInt 32 (a : Int)).toNat = a
    rw [BitVec.ofInt_natCast, BitVec.toNat_ofNat, Nat.mod_eq_of_lt (by omega)]
  have hle : a / 2 ^ k ≤ a := Nat.div_le_self _ _
  rw [BitVec.toInt_eq_toNat_of_lt (by rw [e2]; omega), e2]
theorem lUshr_32 {a : Nat} (ha : a < 2 ^ 62) : lUshr (a : Int) 32 = ((a / 2 ^ 32 : Nat) : Int) := by
  have e1 : lUshr (a : Int) 32 = (((Int64.ofInt (a : Int)).toUInt64 >>> (32 : UInt64)).toBitVec).toInt := rfl
  rw [e1]
  have e2 : (((Int64.ofInt (a : Int)).toUInt64 >>> (32 : UInt64)).toBitVec).toNat = a / 2 ^ 32 := by
    show ((Int64.ofInt (a : Int)).toUInt64 >>> (32 : UInt64)).toNat = _
    rw [UInt64.toNat_shiftRight, Nat.shiftRight_eq_div_pow]
    have e3 : (Int64.ofInt (a : Int)).toUInt64.toNat = a := by
      show (BitVec.ofInt 64 (a : Int)).toNat = a
      rw [BitVec.ofInt_natCast, BitVec.toNat_ofNat, Nat.mod_eq_of_lt (by omega)]
    rw [e3]
    rfl
  rw [BitVec.toInt_eq_toNat_of_lt (by rw [e2]; omega), e2]
theorem w32_big {a : Nat} (h1 : 2 ^ 31 ≤ a) (h2 : a < 2 ^ 32) : w32 (a : Int) = (a : Int) - 4294967296 := by
  have q := w32_add ((a : Int) - 4294967296)
  rw [Int.sub_add_cancel] at q
  rw [q, w32e (by omega) (by omega)]
theorem nz73 {n m : Nat} {y : Int} {P : Int → Prop} (hm : m < 2) (h1 : 2 ^ m ≤ n) (h2 : n < 2 ^ (m + 1)) (y0 : 0 ≤ y) (y1 : y ≤ 31) (h : P (y - m)) : F_J6_numberOfLeadingZeros_0f7a4_73 (n : Int) y P := by
  unfold F_J6_numberOfLeadingZeros_0f7a4_73
  have hn : n < 4 := by
    have : 2 ^ (m + 1) ≤ 2 ^ 2 := Nat.pow_le_pow_right (by decide) (by omega)
    omega
  rw [bUshr_n (a := n) (k := 1) (kI := 1) rfl (by omega) rfl rfl]
  have e : n / 2 ^ 1 = m := by
    match m, hm, h1, h2 with
    | 0, _, h1, h2 => omega
    | 1, _, h1, h2 => omega
  rw [e, w32e (by omega) (by omega)]; exact h
theorem nz61 {x : Int} {n m : Nat} {y : Int} {P : Int → Prop} (hx : x = (n : Int)) (hm : m < 4) (h1 : 2 ^ m ≤ n) (h2 : n < 2 ^ (m + 1)) (y0 : 2 ≤ y) (y1 : y ≤ 31) (h : P (y - m)) : F_J6_numberOfLeadingZeros_0f7a4_61 x y P := by
  unfold F_J6_numberOfLeadingZeros_0f7a4_61
  have hn : n < 16 := by
    have : 2 ^ (m + 1) ≤ 2 ^ 4 := Nat.pow_le_pow_right (by decide) (by omega)
    omega
  rcases Nat.lt_or_ge m 2 with w | w
  · have : 2 ^ (m + 1) ≤ 2 ^ 2 := Nat.pow_le_pow_right (by decide) (by omega)
    rw [if_pos (by omega)]
    rw [hx]
    exact nz73 w h1 h2 (by omega) (by omega) h
  · have : 2 ^ 2 ≤ 2 ^ m := Nat.pow_le_pow_right (by decide) (by omega)
    obtain ⟨k, rfl⟩ : ∃ k, m = k + 2 := ⟨m - 2, by omega⟩
    rw [show k + 2 + 1 = (k + 1) + 2 by omega, Nat.pow_add] at h2
    rw [Nat.pow_add] at h1
    rw [if_neg (by omega), hx, bUshr_n (a := n) (k := 2) (kI := 2) rfl (by omega) rfl rfl, w32e (by omega) (by omega)]
    exact nz73 (m := k) (by omega) (by omega) (by omega) (by omega) (by omega) (by rw [show y + -2 - (k : Int) = y - ((k + 2 : Nat) : Int) by omega]; exact h)
theorem nz48 {x : Int} {n m : Nat} {y : Int} {P : Int → Prop} (hx : x = (n : Int)) (hm : m < 8) (h1 : 2 ^ m ≤ n) (h2 : n < 2 ^ (m + 1)) (y0 : 6 ≤ y) (y1 : y ≤ 31) (h : P (y - m)) : F_J6_numberOfLeadingZeros_0f7a4_48 x y P := by
  unfold F_J6_numberOfLeadingZeros_0f7a4_48
  have hn : n < 256 := by
    have : 2 ^ (m + 1) ≤ 2 ^ 8 := Nat.pow_le_pow_right (by decide) (by omega)
    omega
  rcases Nat.lt_or_ge m 4 with w | w
  · have : 2 ^ (m + 1) ≤ 2 ^ 4 := Nat.pow_le_pow_right (by decide) (by omega)
    rw [if_pos (by omega)]
    exact nz61 hx w h1 h2 (by omega) (by omega) h
  · have : 2 ^ 4 ≤ 2 ^ m := Nat.pow_le_pow_right (by decide) (by omega)
    obtain ⟨k, rfl⟩ : ∃ k, m = k + 4 := ⟨m - 4, by omega⟩
    rw [show k + 4 + 1 = (k + 1) + 4 by omega, Nat.pow_add] at h2
    rw [Nat.pow_add] at h1
    rw [if_neg (by omega), hx, bUshr_n (a := n) (k := 4) (kI := 4) rfl (by omega) rfl rfl, w32e (by omega) (by omega)]
    exact nz61 (m := k) rfl (by omega) (by omega) (by omega) (by omega) (by omega) (by rw [show y + -4 - (k : Int) = y - ((k + 4 : Nat) : Int) by omega]; exact h)
theorem nz33 {x : Int} {n m : Nat} {y : Int} {P : Int → Prop} (hx : x = (n : Int)) (hm : m < 16) (h1 : 2 ^ m ≤ n) (h2 : n < 2 ^ (m + 1)) (y0 : 14 ≤ y) (y1 : y ≤ 31) (h : P (y - m)) : F_J6_numberOfLeadingZeros_0f7a4_33 x y P := by
  unfold F_J6_numberOfLeadingZeros_0f7a4_33
  have hn : n < 65536 := by
    have : 2 ^ (m + 1) ≤ 2 ^ 16 := Nat.pow_le_pow_right (by decide) (by omega)
    omega
  rcases Nat.lt_or_ge m 8 with w | w
  · have : 2 ^ (m + 1) ≤ 2 ^ 8 := Nat.pow_le_pow_right (by decide) (by omega)
    rw [if_pos (by omega)]
    exact nz48 hx w h1 h2 (by omega) (by omega) h
  · have : 2 ^ 8 ≤ 2 ^ m := Nat.pow_le_pow_right (by decide) (by omega)
    obtain ⟨k, rfl⟩ : ∃ k, m = k + 8 := ⟨m - 8, by omega⟩
    rw [show k + 8 + 1 = (k + 1) + 8 by omega, Nat.pow_add] at h2
    rw [Nat.pow_add] at h1
    rw [if_neg (by omega), hx, bUshr_n (a := n) (k := 8) (kI := 8) rfl (by omega) rfl rfl, w32e (by omega) (by omega)]
    exact nz48 (m := k) rfl (by omega) (by omega) (by omega) (by omega) (by omega) (by rw [show y + -8 - (k : Int) = y - ((k + 8 : Nat) : Int) by omega]; exact h)
theorem nz6 {x : Int} {n m : Nat} {P : Int → Prop} (hx : x = (n : Int)) (hm : m < 31) (h1 : 2 ^ m ≤ n) (h2 : n < 2 ^ (m + 1)) (h : P (31 - m)) : F_J6_numberOfLeadingZeros_0f7a4 x P := by
  unfold F_J6_numberOfLeadingZeros_0f7a4
  have hn : n < 2 ^ 31 := by
    have : 2 ^ (m + 1) ≤ 2 ^ 31 := Nat.pow_le_pow_right (by decide) (by omega)
    omega
  have hp : 0 < 2 ^ m := Nat.pow_pos (by decide)
  rw [if_pos (by omega)]
  rcases Nat.lt_or_ge m 16 with w | w
  · have : 2 ^ (m + 1) ≤ 2 ^ 16 := Nat.pow_le_pow_right (by decide) (by omega)
    rw [if_pos (by omega)]
    exact nz33 hx w h1 h2 (by omega) (by omega) h
  · have : 2 ^ 16 ≤ 2 ^ m := Nat.pow_le_pow_right (by decide) (by omega)
    obtain ⟨k, rfl⟩ : ∃ k, m = k + 16 := ⟨m - 16, by omega⟩
    rw [show k + 16 + 1 = (k + 1) + 16 by omega, Nat.pow_add] at h2
    rw [Nat.pow_add] at h1
    rw [if_neg (by omega), w32e (by omega) (by omega)]
    have hb : bUshr x 16 = ((n / 2 ^ 16 : Nat) : Int) := by rw [hx]; exact bUshr_n (a := n) (k := 16) (kI := 16) rfl (by omega) rfl rfl
    generalize bUshr x 16 = t at hb
    exact nz33 (m := k) hb (by omega) (by omega) (by omega) (by omega) (by omega) (by rw [show 31 + -16 - (k : Int) = 31 - ((k + 16 : Nat) : Int) by omega]; exact h)
theorem nz13 {x : Int} {n m : Nat} {P : Int → Prop} (hx : x = (n : Int)) (hm : m < 40) (h1 : 2 ^ m ≤ n) (h2 : n < 2 ^ (m + 1)) (h : P (63 - m)) : F_J13_numberOfLeadingZeros_95d88 x P := by
  unfold F_J13_numberOfLeadingZeros_95d88 F_J13_numberOfLeadingZeros_95d88_25
  have hn : n < 2 ^ 40 := by
    have : 2 ^ (m + 1) ≤ 2 ^ 40 := Nat.pow_le_pow_right (by decide) (by omega)
    omega
  have eu : lUshr x 32 = ((n / 2 ^ 32 : Nat) : Int) := by rw [hx]; exact lUshr_32 (by omega)
  generalize hy : lUshr x 32 = y at eu
  have ey : w32 y = y := w32e (by omega) (by omega)
  rw [ey]
  rcases Nat.lt_or_ge m 32 with hq | hq
  · have hn2 : n < 2 ^ 32 := by
      have : 2 ^ (m + 1) ≤ 2 ^ 32 := Nat.pow_le_pow_right (by decide) (by omega)
      omega
    rw [if_pos (by omega)]
    rcases Nat.lt_or_ge m 31 with hm2 | hm2
    · have : 2 ^ (m + 1) ≤ 2 ^ 31 := Nat.pow_le_pow_right (by decide) (by omega)
      rw [w32e (x := x) (by omega) (by omega)]
      refine nz6 hx hm2 h1 h2 ?_
      rw [w32e (by omega) (by omega), show 32 + (31 - (m : Int)) = 63 - m by omega]; exact h
    · have hm3 : m = 31 := by omega
      have : 2 ^ 31 ≤ 2 ^ m := Nat.pow_le_pow_right (by decide) (by omega)
      have ex : w32 x = (n : Int) - 4294967296 := by rw [hx]; exact w32_big (by omega) hn2
      generalize w32 x = t at ex
      unfold F_J6_numberOfLeadingZeros_0f7a4 F_J6_numberOfLeadingZeros_0f7a4_14
      rw [if_neg (by omega), if_neg (by omega)]
      dsimp only
      rw [w32e (by omega) (by omega)]
      rw [hm3] at h; exact h
  · have : 2 ^ 32 ≤ 2 ^ m := Nat.pow_le_pow_right (by decide) (by omega)
    rw [if_neg (by omega)]
    obtain ⟨k, rfl⟩ : ∃ k, m = k + 32 := ⟨m - 32, by omega⟩
    rw [show k + 32 + 1 = (k + 1) + 32 by omega, Nat.pow_add] at h2
    rw [Nat.pow_add] at h1
    refine nz6 (m := k) eu (by omega) (by omega) (by omega) ?_
    rw [show 31 - (k : Int) = 63 - ((k + 32 : Nat) : Int) by omega]; exact h
/-- the highest bit -/
theorem topbit : ∀ (n : Nat), 0 < n → ∃ m, 2 ^ m ≤ n ∧ n < 2 ^ (m + 1) := fun n h => ⟨n.log2, Nat.log2_self_le (by omega), Nat.lt_log2_self⟩
theorem o_common {z : Z} {b : Nat → Nat} {I : Nat → Prop} {S : SS} {v w : Int} {P : Int → Prop} (R : RC z b I S) (hv : 0 ≤ v ∧ v < S.2.1.1) (hw : 0 ≤ w ∧ w < S.2.1.1) (h : P (bsP S.2.1.2.2.1 S.2.1.2.2.2 v w)) : F_X2_commonOf (b 3) v w z P := by
  obtain ⟨c, r, ht, hl, hb, hk, hq⟩ := id R
  have hB := RC_Bd R
  have h40 := hl.1.2
  unfold F_X2_commonOf
  refine ⟨cK c 3 rfl rfl, o_ancestorsOf c hl.1.1 h40.2 (o_ancestorsOf c hl.1.1 h40.2 ?_)⟩
  rw [if_pos hv, if_pos hw]
  have dv := Bd_Dec hB hv.2
  have dw := Bd_Dec hB hw.2
  have ev : zG z (b 21) v = (ancN S.2.1.2.2.1 S.2.1.2.2.2 41 v : Int) := by
    rw [(hl.2 v hv.1 hv.2).1.2.2.2, ← ancB_N 41 v (by omega) dv]
    exact ancB_c _ _ v (by omega) (by omega) (fun j a e => ⟨⟨rfl, rfl⟩, (dv j a e).1.2, (dv j a e).2.1.2⟩)
  have ew : zG z (b 21) w = (ancN S.2.1.2.2.1 S.2.1.2.2.2 41 w : Int) := by
    rw [(hl.2 w hw.1 hw.2).1.2.2.2, ← ancB_N 41 w (by omega) dw]
    exact ancB_c _ _ w (by omega) (by omega) (fun j a e => ⟨⟨rfl, rfl⟩, (dw j a e).1.2, (dw j a e).2.1.2⟩)
  have bv := ancN_b 41 v (by omega) dv
  have bw := ancN_b 41 w (by omega) dw
  rw [ev, ew, lAnd_n (by omega) (by omega)]
  generalize hA : ancN S.2.1.2.2.1 S.2.1.2.2.2 41 v = A at bv
  generalize hC : ancN S.2.1.2.2.1 S.2.1.2.2.2 41 w = C at bw
  have tv : ∀ j : Nat, A.testBit j = true ↔ ancP S.2.1.2.2.1 S.2.1.2.2.2 41 v j := fun j => by rw [← hA]; exact ancN_t 41 v j dv
  have tw : ∀ j : Nat, C.testBit j = true ↔ ancP S.2.1.2.2.1 S.2.1.2.2.2 41 w j := fun j => by rw [← hC]; exact ancN_t 41 w j dw
  have tt : ∀ j : Nat, (A &&& C).testBit j = true ↔ ancP S.2.1.2.2.1 S.2.1.2.2.2 41 v j ∧ ancP S.2.1.2.2.1 S.2.1.2.2.2 41 w j := fun j => by rw [Nat.testBit_and, Bool.and_eq_true, tv, tw]
  have b0 : (A &&& C).testBit 0 = true := (tt 0).mpr ⟨ancP_0 41 v dv hv.1 (by omega), ancP_0 41 w dw hw.1 (by omega)⟩
  have hlt : A &&& C < 2 ^ 40 := Nat.and_lt_two_pow A bw
  generalize hD : A &&& C = D at tt b0 hlt
  have hp : 0 < D := by
    by_cases e : D = 0
    · rw [e, Nat.zero_testBit] at b0; cases b0
    · omega
  obtain ⟨m, m1, m2⟩ := topbit D hp
  have hm : m < 40 := by
    by_cases e : m < 40
    · exact e
    · have : 2 ^ 40 ≤ 2 ^ m := Nat.pow_le_pow_right (by decide) (by omega)
      omega
  refine nz13 rfl hm m1 m2 ?_
  rw [w32e (by omega) (by omega), show 63 - (63 - (m : Int)) = m by omega]
  have e : bsP S.2.1.2.2.1 S.2.1.2.2.2 v w = (m : Int) := by
    refine topP_e 39 (by omega) (by omega) ?_ (fun k k0 k1 => ?_)
    · refine (tt m).mp ?_
      rw [Nat.testBit_eq_decide_div_mod_eq, decide_eq_true_iff]
      have : D / 2 ^ m = 1 := by
        rw [Nat.pow_succ] at m2
        have hp2 : 0 < 2 ^ m := Nat.pow_pos (by decide)
        exact Nat.div_eq_of_lt_le (by omega) (by omega)
      rw [this]
    · intro q
      have q2 := (tt k.toNat).mpr (by rw [Int.toNat_of_nonneg (by omega)]; exact q)
      have : D < 2 ^ k.toNat := by
        have : 2 ^ (m + 1) ≤ 2 ^ k.toNat := Nat.pow_le_pow_right (by decide) (by omega)
        omega
      rw [Nat.testBit_lt_two_pow this] at q2
      cases q2
  rw [← e]; exact h
theorem o_base {z : Z} {b : Nat → Nat} {I : Nat → Prop} {S : SS} {v w : Int} {P : Int → Prop} (R : RC z b I S) (h : P (pBase v w S)) : F_X11_base (b 0) v w z P := by
  obtain ⟨c, r, ht, hl, hb, hk, hq⟩ := id R
  unfold F_X11_base F_X11_base_22 F_X11_base_35
  unfold pBase at h
  refine ⟨cK c 0 rfl rfl, b 3, cO c 0 2 3 (by decide), cK c 3 rfl rfl, o_at c hl ?_⟩
  by_cases e1 : 0 ≤ v ∧ v < S.2.1.1
  · obtain ⟨⟨⟨va, hva, -⟩, -⟩, -⟩ := hl.2 v e1.1 e1.2
    rw [if_pos e1, hva, if_neg (by simp)]
    refine o_at c hl ?_
    by_cases e2 : 0 ≤ w ∧ w < S.2.1.1
    · obtain ⟨⟨⟨wa, hwa, -⟩, -⟩, -⟩ := hl.2 w e2.1 e2.2
      rw [if_pos e2, hwa, if_neg (by simp)]
      rw [if_pos ⟨e1, e2⟩] at h
      exact o_common R e1 e2 h
    · rw [if_neg e2, if_pos rfl]
      rw [if_neg (fun q => e2 q.2)] at h; exact h
  · rw [if_neg e1, if_pos rfl]
    rw [if_neg (fun q => e1 q.1)] at h; exact h
