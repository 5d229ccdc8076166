/-! ===== the system's reader: signs, names, shapes ===== -/
theorem s9_t : sLen 9 = 24 ∧ ∀ j : Nat, j < 12 → sCh 9 ((2 * j : Nat) : Int) = ([61, 60, 60, 60, 62, 62, 38, 43, 45, 42, 47, 37] : List Int).getD j 0 ∧ sCh 9 ((2 * j + 1 : Nat) : Int) = ([32, 62, 32, 61, 32, 61, 32, 32, 32, 32, 32, 32] : List Int).getD j 0 := by decide +kernel
def tb9 : List (Int × Int × Int) := [(1, 61, 32), (2, 60, 62), (3, 60, 32), (4, 60, 61), (5, 62, 32), (6, 62, 61), (7, 38, 32), (8, 43, 32), (9, 45, 32), (10, 42, 32), (11, 47, 32), (12, 37, 32)]
def sgL (p q : Int) : List (Int × Int × Int) → Int → Int
  | [], v => v
  | r :: l, v => if r.2.1 = p then (if r.2.2 = 32 then sgL p q l r.1 else if r.2.2 = q then r.1 else sgL p q l v) else sgL p q l v
theorem tb9_d : ∀ j : Nat, j < 12 → tb9.drop j = ((j : Int) + 1, sCh 9 ((2 * j : Nat) : Int), sCh 9 ((2 * j + 1 : Nat) : Int)) :: tb9.drop (j + 1) := by decide +kernel
theorem sg_fin {t : Tx} {z : Z} {b : Nat → Nat} (C : TxC t z b) {k : Int} : sgL (sbt t k) (sbt t (k + 1)) tb9 0 = sgO t k := by
  have i := fun (x : Int) (h0 : 1 ≤ x) (h1 : x ≤ 127) => sb_i (k := k) C h0 h1
  have i2 := fun (x : Int) (h0 : 1 ≤ x) (h1 : x ≤ 127) => sb_i (k := k + 1) C h0 h1
  have one : ∀ x : Int, bt t k = x → 1 ≤ x → x ≤ 127 → sbt t k = x := fun x e h0 h1 => (i x h0 h1).mpr e
  have not : ∀ x : Int, bt t k ≠ x → 1 ≤ x → x ≤ 127 → ¬ x = sbt t k := fun x e h0 h1 q => e ((i x h0 h1).mp q.symm)
  have not2 : ∀ x : Int, bt t (k + 1) ≠ x → 1 ≤ x → x ≤ 127 → ¬ x = sbt t (k + 1) := fun x e h0 h1 q => e ((i2 x h0 h1).mp q.symm)
  have one2 : ∀ x : Int, bt t (k + 1) = x → 1 ≤ x → x ≤ 127 → sbt t (k + 1) = x := fun x e h0 h1 => (i2 x h0 h1).mpr e
  unfold sgO
  by_cases c1 : bt t k = 61
  · rw [if_pos c1, one 61 c1 (by decide) (by decide)]; simp [sgL, tb9]
  rw [if_neg c1]
  by_cases c2 : bt t k = 60
  · rw [if_pos c2, one 60 c2 (by decide) (by decide)]
    by_cases d1 : bt t (k + 1) = 62
    · rw [if_pos d1, one2 62 d1 (by decide) (by decide)]; simp [sgL, tb9]
    · rw [if_neg d1]
      by_cases d2 : bt t (k + 1) = 61
      · rw [if_pos d2, one2 61 d2 (by decide) (by decide)]; simp [sgL, tb9]
      · rw [if_neg d2]
        have e1 := not2 62 d1 (by decide) (by decide)
        have e2 := not2 61 d2 (by decide) (by decide)
        simp [sgL, tb9, e1, e2]
  rw [if_neg c2]
  by_cases c3 : bt t k = 62
  · rw [if_pos c3, one 62 c3 (by decide) (by decide)]
    by_cases d2 : bt t (k + 1) = 61
    · rw [if_pos d2, one2 61 d2 (by decide) (by decide)]; simp [sgL, tb9]
    · rw [if_neg d2]
      have e2 := not2 61 d2 (by decide) (by decide)
      simp [sgL, tb9, e2]
  rw [if_neg c3]
  by_cases c4 : bt t k = 38
  · rw [if_pos c4, one 38 c4 (by decide) (by decide)]; simp [sgL, tb9]
  rw [if_neg c4]
  by_cases c5 : bt t k = 43
  · rw [if_pos c5, one 43 c5 (by decide) (by decide)]; simp [sgL, tb9]
  rw [if_neg c5]
  by_cases c6 : bt t k = 45
  · rw [if_pos c6, one 45 c6 (by decide) (by decide)]; simp [sgL, tb9]
  rw [if_neg c6]
  by_cases c7 : bt t k = 42
  · rw [if_pos c7, one 42 c7 (by decide) (by decide)]; simp [sgL, tb9]
  rw [if_neg c7]
  by_cases c8 : bt t k = 47
  · rw [if_pos c8, one 47 c8 (by decide) (by decide)]; simp [sgL, tb9]
  rw [if_neg c8]
  by_cases c9 : bt t k = 37
  · rw [if_pos c9, one 37 c9 (by decide) (by decide)]; simp [sgL, tb9]
  rw [if_neg c9]
  have e1 := not 61 c1 (by decide) (by decide)
  have e2 := not 60 c2 (by decide) (by decide)
  have e3 := not 62 c3 (by decide) (by decide)
  have e4 := not 38 c4 (by decide) (by decide)
  have e5 := not 43 c5 (by decide) (by decide)
  have e6 := not 45 c6 (by decide) (by decide)
  have e7 := not 42 c7 (by decide) (by decide)
  have e8 := not 47 c8 (by decide) (by decide)
  have e9 := not 37 c9 (by decide) (by decide)
  simp [sgL, tb9, e1, e2, e3, e4, e5, e6, e7, e8, e9]
theorem o_sg2 {t : Tx} {z : Z} {b : Nat → Nat} {k : Int} {P : Int → Prop} (C : TxC t z b) (h9 : zI z (b 1) 9 = k) (k0 : 0 ≤ k ∧ k ≤ 1000) (h : P (sgO t k)) : F_X5_signOfTwo (b 1) z P := by
  rw [← sg_fin C] at h
  unfold F_X5_signOfTwo F_X5_signOfTwo_4
  refine lp_I (S := Int × Int) (fun s => (1 ≤ s.2 ∧ s.2 ≤ 13) ∧ sgL (sbt t k) (sbt t (k + 1)) (tb9.drop (s.2 - 1).toNat) s.1 = sgL (sbt t k) (sbt t (k + 1)) tb9 0) (fun s => (13 - s.2).toNat) ?_ (0, 1) ⟨⟨by decide, by show (1 : Int) ≤ 13; decide⟩, rfl⟩
  rintro G ⟨v, x⟩ ⟨⟨x0, x1⟩, hb⟩ ih
  simp only at x0 x1 hb
  unfold L_X5_signOfTwo_4 F_X5_signOfTwo_66 F_X5_signOfTwo_77 F_X5_signOfTwo_78
  dsimp only
  by_cases c : 12 < x
  · rw [if_pos c]
    show P v
    rw [show (x - 1).toNat = 12 by omega] at hb
    rw [← hb] at h
    exact h
  · have td := tb9_d (x - 1).toNat (by omega)
    rw [show ((2 * (x - 1).toNat : Nat) : Int) = (x - 1) * 2 by omega, show ((2 * (x - 1).toNat + 1 : Nat) : Int) = (x - 1) * 2 + 1 by omega, show ((x - 1).toNat : Int) + 1 = x by omega, show (x - 1).toNat + 1 = (x + 1 - 1).toNat by omega] at td
    rw [td, sgL] at hb
    rw [if_neg c, w32e (x := x - 1) (by omega) (by omega), w32e (x := (x - 1) * 2) (by omega) (by omega), w32e (x := (x - 1) * 2 + 1) (by omega) (by omega), w32e (x := x + 1) (by omega) (by omega), h9, w32e (x := k + 1) (by omega) (by omega), s9_t.1]
    refine ⟨by omega, by omega, by omega, by omega, cK C.1 1 rfl rfl, o_byt C ?_⟩
    simp only at hb
    generalize sCh 9 ((x - 1) * 2) = A at hb ⊢
    generalize sCh 9 ((x - 1) * 2 + 1) = B at hb ⊢
    have nx : ∀ v', sgL (sbt t k) (sbt t (k + 1)) (tb9.drop (x + 1 - 1).toNat) v' = sgL (sbt t k) (sbt t (k + 1)) tb9 0 → G (v', x + 1) := fun v' hv => ih (v', x + 1) ⟨⟨by show 1 ≤ x + 1; omega, by show x + 1 ≤ 13; omega⟩, hv⟩ (by show (13 - (x + 1)).toNat < (13 - x).toNat; omega)
    by_cases d1 : A = sbt t k
    · rw [if_pos d1]
      rw [if_pos d1] at hb
      refine o_byt C ?_
      by_cases d3 : B = 32
      · rw [if_pos d3] at hb
        by_cases d2 : B = sbt t (k + 1)
        · rw [if_pos d2, if_pos d3, if_pos d3]
          exact nx x hb
        · rw [if_neg d2, if_pos d3]
          exact nx x hb
      · rw [if_neg d3] at hb
        by_cases d2 : B = sbt t (k + 1)
        · rw [if_pos d2, if_neg d3]
          rw [if_pos d2] at hb
          show P x
          rw [hb]; exact h
        · rw [if_neg d2, if_neg d3]
          rw [if_neg d2] at hb
          exact nx v hb
    · rw [if_neg d1]
      rw [if_neg d1] at hb
      exact nx v hb
theorem nm8 : sLen 8 = 144 ∧ ∀ j : Nat, j < 18 → (nmW (18 + (j : Int))).length ≤ 7 ∧ ∀ i : Nat, i < 8 → sCh 8 ((8 * j + i : Nat) : Int) = (if i < (nmW (18 + (j : Int))).length then (nmW (18 + (j : Int))).getD i 0 else 32) ∧ (i < (nmW (18 + (j : Int))).length → 65 ≤ (nmW (18 + (j : Int))).getD i 0 ∧ (nmW (18 + (j : Int))).getD i 0 ≤ 90) := by decide +kernel
theorem o_nm1 {t : Tx} {z : Z} {b : Nat → Nat} {k n : Int} {j : Nat} {x3 : Int} {Q : Int ⊕ (Unit ⊕ Int) → Prop} (C : TxC t z b) (k0 : 0 ≤ k) (n0 : 1 ≤ n) (hk : k + n ≤ t.2.1) (hle : ∀ i, k ≤ i → i < k + n → leB (bt t i) = true) (hj : j < 18) (hy : nmW (18 + (j : Int)) = subL t k n.toNat → Q (.inr (.inr x3))) (hn : nmW (18 + (j : Int)) ≠ subL t k n.toNat → Q (.inl (w32 (x3 + 1)))) : F_X5_nameOf_21 (b 1) k (k + n) x3 (8 * (j : Int)) 0 z Q := by
  have b3 := C.2.2.1
  obtain ⟨l7, tb8⟩ := nm8.2 j hj
  unfold F_X5_nameOf_21
  have lt' : ∀ i : Nat, (i : Int) < n → 65 ≤ bt t (k + i) ∧ bt t (k + i) ≤ 90 := fun i hi => leB_i.mp (hle (k + i) (by omega) (by omega))
  refine lp_I (fun x => (0 ≤ x ∧ x ≤ 8 ∧ x ≤ n) ∧ ∀ i : Nat, (i : Int) < x → sCh 8 ((8 * j + i : Nat) : Int) = bt t (k + i)) (fun x => (8 - x).toNat) ?_ 0 ⟨⟨by decide, by decide, by omega⟩, fun i hi => by omega⟩
  rintro G x ⟨⟨x0, x8, xn⟩, hx⟩ ih
  unfold L_X5_nameOf_21
  rw [w32e (x := k + x) (by omega) (by omega), w32e (x := 8 * (j : Int) + x) (by omega) (by omega)]
  have eix : 8 * (j : Int) + x = ((8 * j + x.toNat : Nat) : Int) := by omega
  have eqI : nmW (18 + (j : Int)) = subL t k n.toNat → ∀ i : Nat, (i : Int) < n → sCh 8 ((8 * j + i : Nat) : Int) = bt t (k + i) := by
    intro e i hi
    have len := congrArg List.length e
    rw [subL_len] at len
    have q := (tb8 i (by omega)).1
    rw [if_pos (by omega), e, subL_at (by omega)] at q
    exact q
  have fin : (x = n ∨ (x < n ∧ (x = 8 ∨ sCh 8 ((8 * j + x.toNat : Nat) : Int) ≠ bt t (k + x)))) → F_X5_nameOf_65 (b 1) k (k + n) x3 (8 * (j : Int)) x z Q := by
    intro hfin
    unfold F_X5_nameOf_65 F_X5_nameOf_91
    rw [w32e (x := k + x) (by omega) (by omega), w32e (x := 8 * (j : Int) + x) (by omega) (by omega)]
    by_cases c : k + x = k + n
    · have ex : x = n := by omega
      rw [if_pos c]
      have n7 : x ≤ 7 := by
        apply Classical.byContradiction
        intro q
        have q7 := hx 7 (by omega)
        have q8 := (tb8 7 (by omega)).1
        rw [if_neg (by omega)] at q8
        have := lt' 7 (by omega)
        omega
      refine ⟨by omega, by rw [nm8.1]; omega, ?_⟩
      rw [eix]
      have qx := tb8 x.toNat (by omega)
      by_cases c32 : sCh 8 ((8 * j + x.toNat : Nat) : Int) = 32
      · rw [if_pos c32]
        refine hy (lst_e ?_ (fun i hi => ?_))
        · rw [subL_len]
          have h1 : ¬ x.toNat < (nmW (18 + (j : Int))).length := fun q => by
            have q1 := qx.1
            rw [if_pos q] at q1
            have := qx.2 q
            omega
          have h2 : ¬ (nmW (18 + (j : Int))).length < x.toNat := fun q => by
            have q1 := (tb8 (nmW (18 + (j : Int))).length (by omega)).1
            rw [if_neg (by omega)] at q1
            have q2 := hx (nmW (18 + (j : Int))).length (by omega)
            have := lt' (nmW (18 + (j : Int))).length (by omega)
            omega
          omega
        · have q1 := (tb8 i (by omega)).1
          rw [if_pos hi] at q1
          have h1 : ¬ x.toNat < (nmW (18 + (j : Int))).length := fun q => by
            have q1 := qx.1
            rw [if_pos q] at q1
            have := qx.2 q
            omega
          rw [← q1, subL_at (by omega)]
          exact hx i (by omega)
      · rw [if_neg c32]
        refine hn (fun e => c32 ?_)
        have len := congrArg List.length e
        rw [subL_len] at len
        have q1 := qx.1
        rw [if_neg (by omega)] at q1
        exact q1
    · rw [if_neg c]
      refine hn (fun e => ?_)
      have len := congrArg List.length e
      rw [subL_len] at len
      rcases hfin with q | ⟨q1, q2 | q2⟩
      · omega
      · omega
      · have := eqI e x.toNat (by omega)
        rw [Int.toNat_of_nonneg x0] at this
        exact q2 this
  by_cases c8 : 8 ≤ x
  · rw [if_pos c8]
    show F_X5_nameOf_65 (b 1) k (k + n) x3 (8 * (j : Int)) x z Q
    exact fin (by omega)
  · rw [if_neg c8]
    by_cases cn : k + n ≤ k + x
    · rw [if_pos cn]
      exact fin (Or.inl (by omega))
    · rw [if_neg cn]
      refine ⟨by omega, by rw [nm8.1]; omega, cK C.1 1 rfl rfl, b 11, cO C.1 1 0 11 (by decide), cK C.1 11 rfl rfl, by omega, by rw [cN C.1 11 (c := 400) rfl rfl]; omega, ?_⟩
      rw [sb_is C (by omega) (by omega), eix]
      have lx := lt' x.toNat (by omega)
      rw [Int.toNat_of_nonneg x0] at lx
      have sv := sb_v C (k + x)
      have es : sbt t (k + x) = bt t (k + x) := by omega
      rw [es]
      by_cases cm : sCh 8 ((8 * j + x.toNat : Nat) : Int) = bt t (k + x)
      · rw [if_pos cm, w32e (by omega) (by omega)]
        refine ih (x + 1) ⟨⟨by omega, by omega, by omega⟩, fun i hi => ?_⟩ (by omega)
        by_cases ei : (i : Int) = x
        · rw [ei, show i = x.toNat by omega]; exact cm
        · exact hx i (by omega)
      · rw [if_neg cm]
        exact fin (Or.inr ⟨by omega, Or.inr cm⟩)
theorem o_nm {t : Tx} {z : Z} {b : Nat → Nat} {k n : Int} {P : Int → Prop} (C : TxC t z b) (k0 : 0 ≤ k) (n0 : 1 ≤ n) (hk : k + n ≤ t.2.1) (hle : ∀ i, k ≤ i → i < k + n → leB (bt t i) = true) (h : P (nmO (subL t k n.toNat))) : F_X5_nameOf (b 1) k (k + n) z P := by
  unfold F_X5_nameOf F_X5_nameOf_3
  refine lp_I (fun x => (18 ≤ x ∧ x ≤ 36) ∧ ∀ i : Nat, (i : Int) < x - 18 → nmW (18 + (i : Int)) ≠ subL t k n.toNat) (fun x => (36 - x).toNat) ?_ 18 ⟨⟨by decide, by decide⟩, fun i hi => by omega⟩
  rintro G x ⟨⟨x0, x1⟩, hf⟩ ih
  unfold L_X5_nameOf_3
  by_cases c : 35 < x
  · rw [if_pos c]
    show P 0
    rw [nmO_0 (fun i hi => hf i (by omega))] at h
    exact h
  · rw [if_neg c, w32e (x := x - 18) (by omega) (by omega), w32e (x := (x - 18) * 8) (by omega) (by omega), show (x - 18) * 8 = 8 * (((x - 18).toNat : Nat) : Int) by omega]
    refine o_nm1 C k0 n0 hk hle (by omega) (fun e => ?_) (fun e => ?_)
    · show P x
      rw [nmO_f (by omega) e, Int.toNat_of_nonneg (by omega), show 18 + (x - 18) = x by omega] at h
      exact h
    · show G (w32 (x + 1))
      rw [w32e (by omega) (by omega)]
      refine ih (x + 1) ⟨⟨by omega, by omega⟩, fun i hi => ?_⟩ (by omega)
      by_cases ei : (i : Int) = x - 18
      · rw [show i = (x - 18).toNat by omega]; exact e
      · exact hf i (by omega)
