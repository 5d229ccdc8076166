/-! ===== the reference's tokens ===== -/
def CxM (t : Tx) (u : Mu) : Prop := (mI u 0 44 = t.2.1 ∧ mI u 0 45 = t.2.2) ∧ (0 ≤ t.2.1 ∧ t.2.1 ≤ t.2.2 ∧ t.2.2 ≤ 400) ∧ ∀ k, 0 ≤ k → k < t.2.1 → mI u 39 k = t.1 k ∧ 0 ≤ t.1 k ∧ t.1 k ≤ 255
theorem bt_r {t : Tx} {u : Mu} (C : CxM t u) (k : Int) : -1 ≤ bt t k ∧ bt t k ≤ 255 := by
  by_cases c : 0 ≤ k ∧ k < t.2.1
  · rw [bt_is c.1 c.2]; have := (C.2.2 k c.1 c.2).2; omega
  · rw [bt_out c]; omega
theorem bt_m {t : Tx} {u : Mu} (C : CxM t u) {k : Int} (h0 : 0 ≤ k) (h : bt t k = -1) : t.2.1 ≤ k := by
  by_cases c : k < t.2.1
  · rw [bt_is h0 c] at h; have := (C.2.2 k h0 c).2; omega
  · omega
theorem CxM_f {t : Tx} {L : WR} {u v : Mu} (f : FrM L u v) (hd : wDis L [(0, some 44), (0, some 45), (39, none)] = true) (C : CxM t u) : CxM t v := by
  refine ⟨⟨(mE f hd (wHas_i (by decide))).trans C.1.1, (mE f hd (wHas_i (by decide))).trans C.1.2⟩, C.2.1, fun k a b => ⟨(mE f hd (wHas_a (by decide))).trans (C.2.2 k a b).1, (C.2.2 k a b).2⟩⟩
theorem i_byte {t : Tx} {u : Mu} {x : Int} {P : Int → Prop} (C : CxM t u) (h0 : 0 ≤ x) (h : P (bt t x)) : F_X12_byteAt x u P := by
  obtain ⟨⟨c1, c2⟩, ⟨b1, b2, b3⟩, c3⟩ := C
  unfold F_X12_byteAt F_X12_byteAt_18
  rw [c1]
  by_cases c : t.2.1 ≤ x
  · rw [if_pos c]; rw [bt_out (by omega)] at h; exact h
  · rw [if_neg c]; rw [bt_is h0 (by omega)] at h
    exact ⟨h0, by omega, by rw [(c3 x h0 (by omega)).1]; exact h⟩
theorem i_dig {x : Int} {P : Int → Prop} (hy : dgB x = true → P 1) (hn : dgB x = false → P 0) : F_X12_isDigit x P := by
  unfold F_X12_isDigit
  refine i_in ?_
  refine ⟨tb_z, ?_⟩
  by_cases c : 48 ≤ x ∧ x ≤ 57
  · rw [tb, if_pos c]; exact hy (dgB_i.mpr c)
  · rw [tb, if_neg c]; exact hn ((bF dgB_i).mpr c)
theorem i_let {x : Int} {P : Int → Prop} (hy : leB x = true → P 1) (hn : leB x = false → P 0) : F_X12_isLetter x P := by
  unfold F_X12_isLetter
  refine i_in ?_
  refine ⟨tb_z, ?_⟩
  by_cases c : 65 ≤ x ∧ x ≤ 90
  · rw [tb, if_pos c]; exact hy (leB_i.mpr c)
  · rw [tb, if_neg c]; exact hn ((bF leB_i).mpr c)
theorem i_pln {x : Int} {P : Int → Prop} (hy : plB x = true → P 1) (hn : plB x = false → P 0) : F_X12_isSign x P := by
  unfold F_X12_isSign
  refine i_in ?_
  refine ⟨tb_z, ?_⟩
  by_cases c : 32 ≤ x ∧ x ≤ 126
  · rw [tb, if_pos c]; exact hy (plB_i.mpr c)
  · rw [tb, if_neg c]; exact hn ((bF plB_i).mpr c)
theorem cr0_y {t : Tx} {k : Int} (h : bt t k = 36) : cr0 t k = k + 1 := by unfold cr0; exact if_pos h
theorem cr0_n {t : Tx} {k : Int} (h : bt t k ≠ 36) : cr0 t k = k := by unfold cr0; exact if_neg h
def crM (t : Tx) (u : Mu) (k : Int) : Mu := uI (uI (uI (uI u 0 52 (crR t k)) 0 53 (crC t k)) 0 54 (sw2 (crF t k))) 0 55 (crE t k)
theorem i_crn {t : Tx} {u : Mu} {x : Int} {P : Int → Mu → Prop} (C : CxM t u) (h0 : 0 ≤ x) (h1 : x ≤ 1000) (hy : crP t x → P 1 (crM t u x)) (hn : ¬ crP t x → P 0 u) : F_X12_corner x u P := by
  have c0 := cr0_b (t := t) (k := x)
  have c2 := cr0_b (t := t) (k := cr0 t x + 1)
  have e2 : cr2 t x = cr0 t (cr0 t x + 1) := rfl
  have A : ∀ q f x4, q = cr2 t x → f = sw2 (crF t x) → x4 = bt t (cr0 t x) → (65 ≤ x4 ∧ x4 ≤ 74) → F_X12_corner_60 q f x4 u P := by
    intro q f x4 hq hf h4 b4
    have X : ∀ x2 x5 x6, x5 ≠ 0 → x2 = crE t x → x6 = crR t x → dgB (bt t (cr2 t x)) = true → F_X12_corner_108 x2 f x4 x5 x6 u P := by
      intro x2 x5 x6 h5 hE hR hd
      unfold F_X12_corner_108 F_X12_corner_135
      have e0 : 0 ≤ crE t x ∧ crE t x ≤ 2000 := by unfold crE; split <;> omega
      rw [if_neg h5, hE]
      refine i_byte C e0.1 (i_dig (fun d => ?_) (fun d => ?_))
      · rw [if_neg (by decide)]
        exact hn (fun k => by rw [k.2.2.1] at d; cases d)
      · rw [if_pos rfl]
        refine i_byte C e0.1 (i_let (fun l => ?_) (fun l => ?_))
        · rw [if_neg (by decide)]; exact hn (fun k => by rw [k.2.2.2] at l; cases l)
        · rw [if_pos rfl, w32e (by omega) (by omega), hR, hf, h4]
          rintro _ rfl _ rfl _ rfl _ rfl
          exact hy ⟨h4 ▸ b4, hd, d, l⟩
    have b0 := bt_r C q
    have b1 := bt_r C (q + 1)
    unfold F_X12_corner_60 F_X12_corner_66
    refine lp_I (S := Int × Int × Int) (fun s => (s.2.1 = 0 ∧ s.1 = q ∧ s.2.2 = 0) ∨ (s.2.1 = 1 ∧ s.1 = q + 1 ∧ s.2.2 = bt t q - 48 ∧ dgB (bt t q) = true) ∨ (s.2.1 = 2 ∧ s.1 = q + 2 ∧ s.2.2 = (bt t q - 48) * 10 + bt t (q + 1) - 48 ∧ dgB (bt t q) = true ∧ dgB (bt t (q + 1)) = true)) (fun s => (2 - s.2.1).toNat) ?_ (q, 0, 0) (Or.inl ⟨rfl, rfl, rfl⟩)
    rintro G ⟨x2, x5, x6⟩ I ih
    simp only at I
    unfold L_X12_corner_66
    dsimp only
    rcases I with ⟨rfl, rfl, rfl⟩ | ⟨rfl, rfl, rfl, d0⟩ | ⟨rfl, rfl, rfl, d0, d1⟩
    · rw [if_neg (by decide)]
      refine i_byte C (by omega) (i_dig (fun d => ?_) (fun d => ?_))
      · rw [if_neg (by decide)]
        refine i_byte C (by omega) ?_
        have ev : w32 ((w32 (w32 (10 * 0) + bt t x2)) - 48) = bt t x2 - 48 := by simp (disch := omega) only [w32e]; omega
        rw [ev, w32e (x := x2 + 1) (by omega) (by omega), w32e (x := (0 : Int) + 1) (by decide) (by decide)]
        exact ih (x2 + 1, 0 + 1, bt t x2 - 48) (Or.inr (Or.inl ⟨rfl, rfl, rfl, d⟩)) (by show (2 - (0 + 1 : Int)).toNat < (2 - (0 : Int)).toNat; decide)
      · rw [if_pos rfl]
        show F_X12_corner_108 x2 f x4 0 0 u P
        unfold F_X12_corner_108 F_X12_corner_135
        rw [if_pos rfl]
        exact hn (fun k => by have := k.2.1; rw [← hq, d] at this; cases this)
    · rw [if_neg (by decide)]
      refine i_byte C (by omega) (i_dig (fun d => ?_) (fun d => ?_))
      · rw [if_neg (by decide)]
        refine i_byte C (by omega) ?_
        have ev : w32 ((w32 (w32 (10 * (bt t q - 48)) + bt t (q + 1))) - 48) = (bt t q - 48) * 10 + bt t (q + 1) - 48 := by simp (disch := omega) only [w32e]; omega
        rw [ev, w32e (x := q + 1 + 1) (by omega) (by omega), w32e (x := (1 : Int) + 1) (by decide) (by decide)]
        exact ih (q + 1 + 1, 1 + 1, (bt t q - 48) * 10 + bt t (q + 1) - 48) (Or.inr (Or.inr ⟨rfl, by show q + 1 + 1 = q + 2; omega, rfl, d0, d⟩)) (by show (2 - (1 + 1 : Int)).toNat < (2 - (1 : Int)).toNat; decide)
      · rw [if_pos rfl]
        have nd : ¬ dgB (bt t (cr2 t x + 1)) = true := by rw [← hq, d]; decide
        exact X (q + 1) 1 (bt t q - 48) (by decide) (by unfold crE; rw [if_neg nd, hq]) (by unfold crR; rw [if_neg nd, hq]) (by rw [← hq]; exact d0)
    · rw [if_pos (by decide)]
      have nd : dgB (bt t (cr2 t x + 1)) = true := by rw [← hq]; exact d1
      exact X (q + 2) 2 _ (by decide) (by unfold crE; rw [if_pos nd, hq]) (by unfold crR; rw [if_pos nd, hq]) (by rw [← hq]; exact d0)
  have B : ∀ q f, q = cr0 t x → f = (if bt t x = 36 then 1 else 0) → F_X12_corner_19 q f u P := by
    intro q f hq hf
    unfold F_X12_corner_19
    refine i_byte C (by omega) (i_in ?_)
    by_cases c : 65 ≤ bt t q ∧ bt t q ≤ 74
    · rw [tb, if_pos c, if_neg (by decide), w32e (x := q + 1) (by omega) (by omega)]
      refine i_byte C (by omega) ?_
      by_cases d : bt t (q + 1) = 36
      · rw [if_pos d, w32e (by omega) (by omega)]
        refine A _ _ _ ?_ ?_ (by rw [hq]) c
        · rw [e2, ← hq, cr0_y d]
        · rw [hf]; unfold crF; rw [← hq, if_pos d]
          by_cases e : bt t x = 36
          · rw [if_pos e, if_pos e]; decide
          · rw [if_neg e, if_neg e]; decide
      · rw [if_neg d]
        refine A _ _ _ ?_ ?_ (by rw [hq]) c
        · rw [e2, ← hq, cr0_n d]
        · rw [hf]; unfold crF; rw [← hq, if_neg d]
          by_cases e : bt t x = 36
          · rw [if_pos e, if_pos e]; decide
          · rw [if_neg e, if_neg e]; decide
    · rw [tb, if_neg c, if_pos rfl]
      exact hn (fun k => c (hq ▸ k.1))
  unfold F_X12_corner
  refine i_byte C h0 ?_
  by_cases c : bt t x = 36
  · rw [if_pos c, w32e (by omega) (by omega)]
    exact B _ _ (cr0_y c).symm (by rw [if_pos c])
  · rw [if_neg c]
    exact B _ _ (cr0_n c).symm (by rw [if_neg c])
theorem i_wd {t : Tx} {u : Mu} {x n : Int} {s : Nat} {P : Int → Prop} (C : CxM t u) (h0 : 0 ≤ x) (h1 : x ≤ 1000) (n0 : 0 ≤ n) (n1 : n ≤ 1000) (hs : s < 44) (hy : subL t x n.toNat = sL s → P 1) (hno : subL t x n.toNat ≠ sL s → P 0) : F_X12_isWord x n s u P := by
  have sl := sL_len s
  unfold F_X12_isWord
  refine ⟨hs, ?_⟩
  by_cases c : sLen s = n
  · rw [if_pos c]
    unfold F_X12_isWord_13
    refine lp_I (fun k => (0 ≤ k ∧ k ≤ n) ∧ ∀ j : Nat, (j : Int) < k → bt t (x + j) = (sL s).getD j 0) (fun k => (n - k).toNat) ?_ 0 ⟨⟨by omega, by omega⟩, fun j hj => by omega⟩
    rintro G k ⟨⟨k0, k1⟩, e⟩ ih
    unfold L_X12_isWord_13
    by_cases d : n ≤ k
    · rw [if_pos d]
      exact hy (lst_e (by rw [subL_len]; omega) (fun j hj => by rw [subL_len] at hj; rw [subL_at hj]; exact e j (by omega)))
    · rw [if_neg d]
      have a2 := sL_at s (k := k.toNat) (by omega)
      rw [Int.toNat_of_nonneg k0] at a2
      rw [w32e (x := x + k) (by omega) (by omega)]
      refine i_byte C (by omega) ⟨hs, k0, by omega, ?_⟩
      rw [← a2]
      by_cases e2 : bt t (x + k) = (sL s).getD k.toNat 0
      · rw [if_pos e2, w32e (by omega) (by omega)]
        refine ih (k + 1) ⟨⟨by omega, by omega⟩, fun j hj => ?_⟩ (by omega)
        by_cases ej : (j : Int) = k
        · rw [ej, show j = k.toNat by omega]; exact e2
        · exact e j (by omega)
      · rw [if_neg e2]
        refine hno (fun h => e2 ?_)
        rw [← h, subL_at (by omega), Int.toNat_of_nonneg k0]
  · rw [if_neg c]
    exact hno (fun h => c (by rw [← sl, ← h, subL_len]; omega))
