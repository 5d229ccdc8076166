/-! ===== both states; bits ===== -/
theorem bAnd_m {n : Nat} {m : Int} (hm : m = 2 ^ n) (hn : n < 31) (y : Int) : bAnd y (m - 1) = y % m := by
  have hp : 2 ^ n < 2 ^ 31 := Nat.pow_lt_pow_right (by decide) hn
  have hp0 : 0 < 2 ^ n := Nat.pow_pos (by decide)
  have hmn : m = ((2 ^ n : Nat) : Int) := by rw [hm]; norm_cast
  unfold bAnd
  have e1 : (Int32.ofInt y &&& Int32.ofInt (m - 1)).toInt = ((BitVec.ofInt 32 y) &&& (BitVec.ofInt 32 (m - 1))).toInt := rfl
  rw [e1]
  have e2 : ((BitVec.ofInt 32 y) &&& (BitVec.ofInt 32 (m - 1))).toNat = (y % 2 ^ 32).toNat % 2 ^ n := by
    rw [BitVec.toNat_and, BitVec.toNat_ofInt, BitVec.toNat_ofInt, ← Nat.and_two_pow_sub_one_eq_mod]
    congr 1
    rw [hmn]
    have : ((2 ^ n : Nat) : Int) - 1 = ((2 ^ n - 1 : Nat) : Int) := by omega
    rw [this]
    norm_cast
    rw [Nat.mod_eq_of_lt (by omega), Int.toNat_natCast]
  rw [BitVec.toInt_eq_toNat_of_lt (by rw [e2]; have := Nat.mod_lt (y % 2 ^ 32).toNat hp0; omega), e2, hmn]
  have h32 : (0 : Int) ≤ y % 2 ^ 32 := Int.emod_nonneg _ (by decide)
  rw [Int.natCast_emod, Int.toNat_of_nonneg h32]
  have hd : ((2 ^ n : Nat) : Int) ∣ 2 ^ 32 := by
    refine ⟨((2 ^ (32 - n) : Nat) : Int), ?_⟩
    rw [← Int.natCast_mul, ← Nat.pow_add, show n + (32 - n) = 32 by omega]; rfl
  exact Int.emod_emod_of_dvd y hd
theorem bAnd_255 (y : Int) : bAnd y 255 = y % 256 := by
  have h := bAnd_m (n := 8) (m := 256) (by decide) (by decide) y
  rw [show (256 : Int) - 1 = 255 by decide] at h; exact h
theorem bAnd_3 (y : Int) : bAnd y 3 = y % 4 := by
  have h := bAnd_m (n := 2) (m := 4) (by decide) (by decide) y
  rw [show (4 : Int) - 1 = 3 by decide] at h; exact h
theorem w8_m (y : Int) : w8 (y % 256) = w8 y := by unfold w8; exact Int.emod_bmod y 256
def RC (z : Z) (b : Nat → Nat) (I : Nat → Prop) (S : SS) : Prop := CWz z b ∧ Frz z b I ∧ RCt z b S.1 ∧ RCl z b I S.2.1 ∧ RCb z b S.2.1.1 S.2.2.1 ∧ RCk z b I S.2.2.2.1 ∧ RCq z b I S.2.2.2.2
/-- what is known of the numbers -/
def Bd (S : SS) : Prop := (0 ≤ S.1.1 ∧ S.1.1 ≤ 400) ∧ ((1 ≤ S.2.1.1 ∧ S.2.1.1 ≤ 40) ∧ ∀ k, 0 ≤ k → k < S.2.1.1 → ShB (S.2.1.2.1 k) ∧ ((-1 ≤ S.2.1.2.2.1 k ∧ S.2.1.2.2.1 k < k ∧ (0 < k → 0 ≤ S.2.1.2.2.1 k)) ∧ (-1 ≤ S.2.1.2.2.2 k ∧ S.2.1.2.2.2 k < k))) ∧ ((∀ k, 0 ≤ k → k < 6 → -1 ≤ S.2.2.1.1 k ∧ S.2.2.1.1 k < S.2.1.1) ∧ (0 ≤ S.2.2.1.2.1 ∧ S.2.2.1.2.1 < 6 ∧ 0 ≤ S.2.2.1.1 S.2.2.1.2.1) ∧ (-1 ≤ S.2.2.1.2.2.1 ∧ S.2.2.1.2.2.1 < S.2.1.1)) ∧ (ShB S.2.2.2.1.1 ∧ (0 ≤ S.2.2.2.1.2.1 ∧ 0 ≤ S.2.2.2.1.2.2.2.1 ∧ S.2.2.2.1.2.1 + S.2.2.2.1.2.2.2.1 ≤ 40) ∧ (∀ k, 0 ≤ k → k < S.2.2.2.1.2.1 → ShB (S.2.2.2.1.2.2.1 k)) ∧ ∀ k, 0 ≤ k → k < S.2.2.2.1.2.2.2.1 → ShB (S.2.2.2.1.2.2.2.2 k)) ∧ ((0 ≤ S.2.2.2.2.1 ∧ S.2.2.2.2.1 ≤ 362) ∧ (0 ≤ S.2.2.2.2.2.2.1 ∧ S.2.2.2.2.2.2.1 ≤ 406))
theorem RC_Bd {z : Z} {b : Nat → Nat} {I : Nat → Prop} {S : SS} (h : RC z b I S) : Bd S := by
  obtain ⟨-, -, ht, hl, hb, hk, hq⟩ := h
  exact ⟨ht.1.2, ⟨hl.1.2, fun k a c => ⟨ShO_b (hl.2 k a c).1.1, (hl.2 k a c).2⟩⟩, ⟨fun k a c => (hb.1 k a c).2, hb.2.1.2, hb.2.2.1.2⟩, ⟨ShO_b hk.1, hk.2.1.2.2, fun k a c => ShO_b (hk.2.2.1 k a c), fun k a c => ShO_b (hk.2.2.2 k a c)⟩, hq.1.1.2, hq.2.1.2⟩
/-- N: how many calls were made -/
def RM (u : Mu) (N : Int) (S : SS) : Prop := ((0 ≤ mI u 0 19 ∧ mI u 0 19 + S.1.1 ≤ 20 * N) ∧ (0 ≤ mI u 0 24 ∧ mI u 0 24 ≤ N)) ∧ RMt u S.1 ∧ RMl u S.2.1 ∧ RMb u S.2.2.1 ∧ RMk u S.2.2.2.1 ∧ RMq u S.2.2.2.2
theorem RM_fr {L : WR} {u v : Mu} {N : Int} {S : SS} (hB : Bd S) (f : FrM L u v) (h1 : wDis L rmT = true) (h2 : wDis L rmL = true) (h3 : wDis L rmB = true) (h4 : wDis L rmK = true) (h5 : wDis L rmQ = true) (h6 : wDis L wSl = true) (h7 : wDis L rgC = true) (h : RM u N S) : RM v N S := by
  obtain ⟨⟨n1, n2⟩, ht, hl, hb, hk, hq⟩ := h
  have g := Grw_fr n1.1 f h7
  have e19 := mE f h7 (k := 0) (i := 19) (wHas_i (by decide))
  have e24 := mE f h7 (k := 0) (i := 24) (wHas_i (by decide))
  exact ⟨by rw [e19, e24]; exact ⟨n1, n2⟩, RMt_fr f h1 ht, RMl_fr f h2 (fun k a c => (hB.2.1.2 k a c).1) g (fun k _ _ => SlM_fr f h6) hl, RMb_fr f h3 hb, RMk_fr f h4 h6 hB.2.2.2.1.1 hB.2.2.2.1.2.2.1 hB.2.2.2.1.2.2.2 g hk, RMq_fr f h5 g hq⟩
theorem RM_thr {u : Mu} {N x : Int} {S : SS} (hB : Bd S) (h : RM u N S) : RM (uI u 0 0 x) N S := RM_fr (L := [(0, some 0)]) hB (FrM_uI FrM_rf (wHas_i (by decide))) (by decide) (by decide) (by decide) (by decide) (by decide) (by decide) (by decide) h
theorem RM_N {u : Mu} {N M : Int} {S : SS} (h : RM u N S) (hn : N ≤ M) : RM u M S := by
  obtain ⟨⟨n1, n2⟩, r⟩ := h
  exact ⟨⟨⟨n1.1, by omega⟩, ⟨n2.1, by omega⟩⟩, r⟩
/-! ===== fault, end ===== -/
def pFault (x : Int) (S : SS) : Int := if x = 0 then S.1.2.2.1 else if x = 1 then S.1.2.2.2 else -1
theorem o_fault {z : Z} {b : Nat → Nat} {I : Nat → Prop} {S : SS} {x : Int} {P : Int → Prop} (R : RC z b I S) (h : P (pFault x S)) : F_X11_fault (b 0) x z P := by
  obtain ⟨c, -, ht, -⟩ := R
  unfold F_X11_fault F_X11_fault_28
  unfold pFault at h
  have k0 := cK c 0 rfl rfl
  have k1 := cK c 1 rfl rfl
  have o1 := cO c 0 0 1 (by decide)
  split
  · next e => rw [if_pos e] at h; exact ⟨k0, b 1, o1, k1, by rw [ht.2.2.1]; exact h⟩
  · next e =>
    rw [if_neg e] at h
    split
    · next e2 => rw [if_pos e2] at h; exact ⟨k0, b 1, o1, k1, by rw [ht.2.2.2]; exact h⟩
    · next e2 => rw [if_neg e2] at h; exact h
theorem i_fault {u : Mu} {N : Int} {S : SS} {x : Int} {P : Int → Mu → Prop} (hB : Bd S) (R : RM u N S) (h : ∀ v, RM v N S → FrM [(0, some 0)] u v → P (pFault x S) v) : F_X12_fault x u P := by
  have R' := RM_thr (x := 0) hB R
  have f : FrM [(0, some 0)] u (uI u 0 0 0) := FrM_uI FrM_rf (wHas_i (by decide))
  have q := h _ R' f
  unfold F_X12_fault F_X12_fault_29
  rintro _ rfl
  obtain ⟨-, ht, -⟩ := R'
  unfold pFault at q
  split
  · next e => rw [if_pos e] at q; rw [ht.2.2.1]; exact q
  · next e =>
    rw [if_neg e] at q
    split
    · next e2 => rw [if_pos e2] at q; rw [ht.2.2.2]; exact q
    · next e2 => rw [if_neg e2] at q; exact q
def pEnd (x : Int) (S : SS) : Int × SS := if 0 ≤ x ∧ x ≤ S.1.1 then (1, (x, S.1.2), S.2) else (0, S)
theorem o_end {z : Z} {b : Nat → Nat} {I : Nat → Prop} {S : SS} {x : Int} {P : Int → Z → Prop} (R : RC z b I S) (h : ∀ y, FrZ (WL z b [(1, some 3)] no1 no1) z y → RC y b I (pEnd x S).2 → P (pEnd x S).1 y) : F_X11_end (b 0) x z P := by
  obtain ⟨c, r, ht, hl, hb, hk, hq⟩ := id R
  unfold F_X11_end F_X11_end_15
  unfold pEnd at h
  have k0 := cK c 0 rfl rfl
  have k1 := cK c 1 rfl rfl
  have o1 := cO c 0 0 1 (by decide)
  by_cases e : x < 0
  · rw [if_pos e]; rw [if_neg (by omega)] at h; exact h z FrZ_rf R
  · rw [if_neg e]
    refine ⟨k0, b 1, o1, k1, ?_⟩
    rw [ht.1.1]
    by_cases e2 : x ≤ S.1.1
    · rw [if_pos e2]; rw [if_pos (by omega)] at h
      rintro _ rfl
      have f : FrZ (WL z b [(1, some 3)] no1 no1) z (wI z (b 1) 3 x) := FrZ_wI FrZ_rf (Or.inl (WL_i (by decide) (by decide)))
      refine h _ f ⟨CWz_fr c f (by decide), Frz_fr r f, ?_, RCl_fr c r f (by decide) hl, RCb_fr c f (by decide) hb, RCk_fr c r f (by decide) hk, RCq_fr c r f (by decide) hq⟩
      obtain ⟨⟨t1, t2⟩, t3, t4, t5⟩ := ht
      have n11 : b 11 ≠ b 1 := cNe c rfl rfl rfl
      refine ⟨⟨by rw [zI_wI, if_pos ⟨rfl, rfl⟩], by show 0 ≤ x ∧ x ≤ 400; omega⟩, fun i i0 i1 => ?_, ?_, ?_⟩
      · rw [zI_wI, if_neg (fun w => n11 w.1)]; exact t3 i i0 i1
      · rw [zI_wI, if_neg (by omega)]; exact t4
      · rw [zI_wI, if_neg (by omega)]; exact t5
    · rw [if_neg e2]; rw [if_neg (by omega)] at h; exact h z FrZ_rf R
theorem i_end {u : Mu} {N : Int} {S : SS} {x : Int} {P : Int → Mu → Prop} (hB : Bd S) (R : RM u N S) (h : ∀ v, RM v N (pEnd x S).2 → FrM [(0, some 0), (0, some 40)] u v → P (pEnd x S).1 v) : F_X12_end x u P := by
  unfold F_X12_end F_X12_end_24
  rintro _ rfl
  have R' := RM_thr (x := 0) hB R
  have f : FrM [(0, some 0), (0, some 40)] u (uI u 0 0 0) := FrM_uI FrM_rf (wHas_i (by decide))
  generalize hv : uI u 0 0 0 = v at R' f ⊢
  obtain ⟨⟨n1, n2⟩, ht, hl, hb, hk, hq⟩ := id R'
  refine i_in ?_
  rw [ht.1]
  unfold pEnd at h
  by_cases e : 0 ≤ x ∧ x ≤ S.1.1
  · rw [show tb (0 ≤ x ∧ x ≤ S.1.1) = 1 by rw [tb, if_pos e]]
    rw [if_pos e] at h
    rw [if_neg (by decide)]
    rintro _ rfl
    refine ⟨z1_1, h _ ?_ (FrM_uI f (wHas_i (by decide)))⟩
    have f2 : FrM [(0, some 40)] v (uI v 0 40 x) := FrM_uI FrM_rf (wHas_i (by decide))
    have g := Grw_fr n1.1 f2 (by decide)
    refine ⟨⟨⟨by rw [mI_uI, if_neg (by omega)]; exact n1.1, by rw [mI_uI, if_neg (by omega)]; show _ + x ≤ _; omega⟩, ⟨by rw [mI_uI, if_neg (by omega)]; exact n2.1, by rw [mI_uI, if_neg (by omega)]; exact n2.2⟩⟩, ?_, RMl_fr f2 (by decide) (fun k a c => (hB.2.1.2 k a c).1) g (fun k _ _ => SlM_fr f2 (by decide)) hl, RMb_fr f2 (by decide) hb, RMk_fr f2 (by decide) (by decide) hB.2.2.2.1.1 hB.2.2.2.1.2.2.1 hB.2.2.2.1.2.2.2 g hk, RMq_fr f2 (by decide) g hq⟩
    refine ⟨by rw [mI_uI, if_pos ⟨rfl, rfl⟩], fun i a c => ?_, ?_, ?_⟩
    · rw [mI_uI, if_neg (by omega)]; exact ht.2.1 i a c
    · rw [mI_uI, if_neg (by omega)]; exact ht.2.2.1
    · rw [mI_uI, if_neg (by omega)]; exact ht.2.2.2
  · rw [show tb (0 ≤ x ∧ x ≤ S.1.1) = 0 by rw [tb, if_neg e]]
    rw [if_neg e] at h
    rw [if_pos rfl]
    exact ⟨z1_0, h _ R' f⟩
