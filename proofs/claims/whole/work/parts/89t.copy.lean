/-! ===== copy: the system ===== -/
theorem rw_div {r c w : Int} (h0 : 0 ≤ c) (h1 : c < w) : (r * w + c) / w = r ∧ (r * w + c) % w = c := by
  constructor
  · rw [Int.add_comm, Int.add_mul_ediv_right _ _ (by omega), Int.ediv_eq_zero_of_lt h0 h1, Int.zero_add]
  · rw [Int.add_comm, Int.add_mul_emod_self_right, Int.emod_eq_of_lt h0 h1]
theorem sumN_r {g : Int → Int} {B : Int} : ∀ (m : Nat) (k : Int), (∀ j, k ≤ j → j < k + m → 0 ≤ g j ∧ g j ≤ B) → 0 ≤ sumN g m k ∧ sumN g m k ≤ m * B
  | 0, _, _ => by unfold sumN; omega
  | m + 1, k, hg => by
    have h1 := sumN_r m (k + 1) (fun j a c => hg j (by omega) (by omega))
    have h2 := hg k (by omega) (by omega)
    rw [sumN, show ((m + 1 : Nat) : Int) * B = m * B + B by rw [Int.natCast_succ, Int.add_mul, Int.one_mul]]
    omega
def cpH (s : Sh) (r r2 ar : Int) : Int := min (r2 - r) (s.1.1 - ar) + 1
def cpW (s : Sh) (c c2 ac : Int) : Int := min (c2 - c) (s.1.2 - ac) + 1
/-- the parts of the cell at place k of a field w wide -/
def pcK (s : Sh) (r c w k : Int) : Int := (pcN (s.2.2.2 (r - 1 + k / w) (c - 1 + k % w)) : Int)
def moreP (s : Sh) (r c h w : Int) : Int := sumN (pcK s r c w) (h * w).toNat 0
/-- the cell a, d after k cells of the copy -/
def cpC (S : SS) (s : Sh) (r c ar ac h w k a d : Int) : Cont := if ((ar - 1 ≤ a ∧ a < ar - 1 + h) ∧ ac - 1 ≤ d ∧ d < ac - 1 + w) ∧ (a - (ar - 1)) * w + (d - (ac - 1)) < k then shfC S (ar - r) (ac - c) (s.2.2.2 (a - (ar - r)) (d - (ac - c))) else s.2.2.2 a d
def cpS2 (S : SS) (s : Sh) (r c ar ac h w k : Int) : Sh := (s.1, s.2.1, s.2.2.1, fun a d => cpC S s r c ar ac h w k a d)
def setP (S : SS) (m : Int) : SS := (S.1, S.2.1, (S.2.2.1.1, S.2.2.1.2.1, S.2.2.1.2.2.1, m, S.2.2.1.2.2.2.2), S.2.2.2)
def pCopy (r c r2 c2 ar ac : Int) (S : SS) : Nat × Int × SS := if (hasS S.2.2.2.1.1 r c ∧ hasS S.2.2.2.1.1 r2 c2) ∧ hasS S.2.2.2.1.1 ar ac then (if r ≤ r2 ∧ c ≤ c2 then (if S.2.2.1.2.2.2.1 + moreP S.2.2.2.1.1 r c (cpH S.2.2.2.1.1 r r2 ar) (cpW S.2.2.2.1.1 c c2 ac) ≤ 60000 then (0, cpH S.2.2.2.1.1 r r2 ar * cpW S.2.2.2.1.1 c c2 ac, setW (pStep0 (setP S (S.2.2.1.2.2.2.1 + moreP S.2.2.2.1.1 r c (cpH S.2.2.2.1.1 r r2 ar) (cpW S.2.2.2.1.1 c c2 ac)))) (cpS2 S S.2.2.2.1.1 r c ar ac (cpH S.2.2.2.1.1 r r2 ar) (cpW S.2.2.2.1.1 c c2 ac) (cpH S.2.2.2.1.1 r r2 ar * cpW S.2.2.2.1.1 c c2 ac))) else (3, 0, S)) else (2, 0, S)) else (1, 0, S)
theorem o_partsOf {z : Z} {I : Nat → Prop} {q : Option Nat} {k : Cont} {P : Int → Prop} (hk : ContC z I q k) (h : P (pcN k : Int)) : F_X11_partsOf q z P := by
  unfold F_X11_partsOf F_X11_partsOf_13
  match k, hk, h with
  | none, hk, h => rw [if_pos (show q = none from hk)]; exact h
  | some (kk, l, ps), hk, h =>
    obtain ⟨a, pa, h1, -, h3, -, h5, -, h7, h8, -⟩ := hk
    rw [if_neg (by rw [h1]; simp)]
    exact ⟨a, h1, h3, pa, h5, h7, by rw [h8]; exact h⟩
theorem pcN_60 {k : Cont} (h : WfC k) : pcN k ≤ 60 := by
  match k, h with
  | none, _ => exact Nat.zero_le _
  | some (kk, l, ps), h =>
    obtain ⟨h1, h2, -⟩ := h kk l ps rfl
    show ps.length ≤ 60
    by_cases e : kk = 5
    · exact (h1 e).2.2
    · rw [h2 e]; exact Nat.zero_le _
theorem pcK_b {s : Sh} {r c w : Int} {h : Int} (hw : 1 ≤ w) (wf : ∀ a d, 0 ≤ a → a < s.1.1 → 0 ≤ d → d < s.1.2 → WfC (s.2.2.2 a d)) (r0 : 1 ≤ r) (c0 : 1 ≤ c) (rh : r - 1 + h ≤ s.1.1) (cw : c - 1 + w ≤ s.1.2) {k : Int} (k0 : 0 ≤ k) (k1 : k < h * w) : 0 ≤ pcK s r c w k ∧ pcK s r c w k ≤ 60 := by
  obtain ⟨⟨i1, i2⟩, ⟨i3, i4⟩, -⟩ := ixrc k0 k1 hw
  have := pcN_60 (wf (r - 1 + k / w) (c - 1 + k % w) (by omega) (by omega) (by omega) (by omega))
  unfold pcK; omega
theorem moreP_b {s : Sh} {r c h w : Int} (hw : 1 ≤ w) (hb : h * w ≤ 320) (h0 : 0 ≤ h * w) (wf : ∀ a d, 0 ≤ a → a < s.1.1 → 0 ≤ d → d < s.1.2 → WfC (s.2.2.2 a d)) (r0 : 1 ≤ r) (c0 : 1 ≤ c) (rh : r - 1 + h ≤ s.1.1) (cw : c - 1 + w ≤ s.1.2) {k : Int} (k0 : 0 ≤ k) (k1 : k ≤ h * w) : 0 ≤ sumN (pcK s r c w) (h * w - k).toNat k ∧ sumN (pcK s r c w) (h * w - k).toNat k ≤ 19200 := by
  have := sumN_r (g := pcK s r c w) (B := 60) (h * w - k).toNat k (fun j a e => pcK_b hw wf r0 c0 rh cw (by omega) (by omega))
  omega
theorem o_within {z : Z} {b : Nat → Nat} {I : Nat → Prop} {S : SS} {r c h w : Int} {P : Int → Prop} (R : RC z b I S) (wf : ∀ a d, 0 ≤ a → a < S.2.2.2.1.1.1.1 → 0 ≤ d → d < S.2.2.2.1.1.1.2 → WfC (S.2.2.2.1.1.2.2.2 a d)) (r0 : 1 ≤ r) (c0 : 1 ≤ c) (h1 : 1 ≤ h) (w1 : 1 ≤ w) (rh : r - 1 + h ≤ S.2.2.2.1.1.1.1) (cw : c - 1 + w ≤ S.2.2.2.1.1.1.2) (k : P (moreP S.2.2.2.1.1 r c h w)) : F_X11_partsWithin (b 0) r c h w z P := by
  obtain ⟨cc, -, -, -, -, hk, -⟩ := id R
  obtain ⟨wa, hwa, sw⟩ := hk.1
  have bw := ShC_b sw
  obtain ⟨⟨b1, b2⟩, b3, b4⟩ := bw
  have hb : 1 ≤ h * w ∧ h * w ≤ 320 := cnt ⟨h1, by omega⟩ ⟨w1, by omega⟩
  generalize hs : S.2.2.2.1.1 = s at *
  unfold F_X11_partsWithin F_X11_partsWithin_6
  refine lp_I (fun t => (0 ≤ t.2 ∧ t.2 ≤ h) ∧ 0 ≤ t.1 ∧ t.1 + sumN (pcK s r c w) (h * w - t.2 * w).toNat (t.2 * w) = moreP s r c h w) (fun t => (h - t.2).toNat) ?_ (0, 0) ⟨⟨by show (0 : Int) ≤ 0; decide, by show (0 : Int) ≤ h; omega⟩, by decide, by show (0 : Int) + sumN _ (h * w - 0 * w).toNat (0 * w) = _; rw [Int.zero_mul, Int.sub_zero, Int.zero_add]; rfl⟩
  rintro G ⟨acc, i⟩ ⟨⟨i0, i1⟩, a0, hsum⟩ ih
  simp only at i0 i1 a0 hsum
  unfold L_X11_partsWithin_6
  dsimp only
  have hiw : i * w ≤ h * w := Int.mul_le_mul_of_nonneg_right i1 (by omega)
  have hiw0 : 0 ≤ i * w := Int.mul_nonneg i0 (by omega)
  by_cases ei : h ≤ i
  · rw [if_pos ei]
    have e : i = h := by omega
    rw [e, Int.sub_self, show (0 : Int).toNat = 0 from rfl, sumN, Int.add_zero] at hsum
    show P acc
    rw [hsum]; exact k
  · rw [if_neg ei]
    have hiw2 : (i + 1) * w ≤ h * w := Int.mul_le_mul_of_nonneg_right (by omega) (by omega)
    have eiw : (i + 1) * w = i * w + w := by rw [Int.add_mul, Int.one_mul]
    unfold F_X11_partsWithin_15
    refine lp_I (fun t => (0 ≤ t.2 ∧ t.2 ≤ w) ∧ 0 ≤ t.1 ∧ t.1 + sumN (pcK s r c w) (h * w - (i * w + t.2)).toNat (i * w + t.2) = moreP s r c h w) (fun t => (w - t.2).toNat) ?_ (acc, 0) ⟨⟨by show (0 : Int) ≤ 0; decide, by show (0 : Int) ≤ w; omega⟩, a0, by show acc + sumN _ (h * w - (i * w + 0)).toNat (i * w + 0) = _; rw [Int.add_zero]; exact hsum⟩
    rintro G2 ⟨ac2, j⟩ ⟨⟨j0, j1⟩, a2, hsum2⟩ ih2
    simp only at j0 j1 a2 hsum2
    unfold L_X11_partsWithin_15
    dsimp only
    by_cases ej : w ≤ j
    · rw [if_pos ej]
      show G (ac2, w32 (i + 1))
      rw [w32e (by omega) (by omega)]
      refine ih (ac2, i + 1) ⟨⟨by show 0 ≤ i + 1; omega, by show i + 1 ≤ h; omega⟩, a2, ?_⟩ (by show (h - (i + 1)).toNat < (h - i).toNat; omega)
      show ac2 + sumN _ (h * w - (i + 1) * w).toNat ((i + 1) * w) = _
      rw [eiw, show i * w + w = i * w + j by omega]; exact hsum2
    · rw [if_neg ej, w32e (x := r + i) (by omega) (by omega), w32e (x := c + j) (by omega) (by omega), w32e (x := j + 1) (by omega) (by omega)]
      refine ⟨cK cc 0 rfl rfl, wa, hwa, ShC_7 sw, o_cellAt sw (fun q hq => o_partsOf hq ?_)⟩
      rw [if_pos ⟨⟨by omega, by omega⟩, by omega, by omega⟩] at hq ⊢
      rw [show (h * w - (i * w + j)).toNat = (h * w - (i * w + (j + 1))).toNat + 1 by omega, sumN] at hsum2
      have dv := rw_div (r := i) j0 (show j < w by omega)
      have ek : pcK s r c w (i * w + j) = (pcN (s.2.2.2 (r + i - 1) (c + j - 1)) : Int) := by
        unfold pcK; rw [dv.1, dv.2, show r - 1 + i = r + i - 1 by omega, show c - 1 + j = c + j - 1 by omega]
      rw [ek, show i * w + j + 1 = i * w + (j + 1) by omega] at hsum2
      have rb := moreP_b w1 hb.2 (by omega) wf r0 c0 rh cw (k := i * w + (j + 1)) (by omega) (by omega)
      have tb2 := moreP_b w1 hb.2 (by omega) wf r0 c0 rh cw (k := 0) (by omega) (by omega)
      rw [Int.sub_zero] at tb2
      have tb3 : moreP s r c h w ≤ 19200 := tb2.2
      rw [w32e (by omega) (by omega)]
      exact ih2 (ac2 + (pcN (s.2.2.2 (r + i - 1) (c + j - 1)) : Int), j + 1) ⟨⟨by show 0 ≤ j + 1; omega, by show j + 1 ≤ w; omega⟩, by show 0 ≤ ac2 + _; omega, by show ac2 + _ + sumN _ (h * w - (i * w + (j + 1))).toNat (i * w + (j + 1)) = _; omega⟩ (by show (w - (j + 1)).toNat < (w - j).toNat; omega)
theorem NS_nW {z y y' : Z} {q x ra ca : Nat} {nr nc : Int} {F : Int → Int → Option Nat} (h : NS z q x ra ca nr nc F y) (f : FrZ nW y y') : NS z q x ra ca nr nc F y' := by
  obtain ⟨h1, h2, h3, h4, h5, h6, h7⟩ := h
  have k7 : zK y q ≠ 0 := by rw [h5.1]; decide
  have k19 : zK y x ≠ 0 := by rw [h5.2.2.2.2.2.2.1]; decide
  exact ⟨h1, h2, h3, FrZ_tr h4 f, Shp_fr h5 f (fun w => w) (fun w => w) (fun w => w), by rw [(f.2 q 3 k7 (fun w => w)).2.2]; exact h6, fun r c r0 r1 c0 c1 => by rw [(f.2 x _ k19 (fun w => w)).2.2]; exact h7 r c r0 r1 c0 c1⟩
def wCp : WR := (0, some 14) :: wSt
theorem cpC_0 (S : SS) (s : Sh) (r c ar ac h w a d : Int) (hw : 1 ≤ w) : cpC S s r c ar ac h w 0 a d = s.2.2.2 a d := by
  unfold cpC
  rw [if_neg (fun q => ?_)]
  have : 0 ≤ (a - (ar - 1)) * w := Int.mul_nonneg (by omega) (by omega)
  omega
/-- one more cell copied -/
theorem cpC_s {S : SS} {s : Sh} {r c ar ac h w i j a d : Int} (i0 : 0 ≤ i) (i1 : i < h) (j0 : 0 ≤ j) (j1 : j < w) : cpC S s r c ar ac h w (i * w + (j + 1)) a d = if a = ar + i - 1 ∧ d = ac + j - 1 then shfC S (ar - r) (ac - c) (s.2.2.2 (r + i - 1) (c + j - 1)) else cpC S s r c ar ac h w (i * w + j) a d := by
  unfold cpC
  by_cases e : a = ar + i - 1 ∧ d = ac + j - 1
  · rw [if_pos e]
    rw [if_pos ⟨by omega, by rw [show a - (ar - 1) = i by omega, show d - (ac - 1) = j by omega]; omega⟩]
    rw [show a - (ar - r) = r + i - 1 by omega, show d - (ac - c) = c + j - 1 by omega]
  · rw [if_neg e]
    by_cases q : (ar - 1 ≤ a ∧ a < ar - 1 + h) ∧ ac - 1 ≤ d ∧ d < ac - 1 + w
    · have ne : (a - (ar - 1)) * w + (d - (ac - 1)) ≠ i * w + j := fun w2 => e (by
        have := ix_inj (by omega) (by omega) j0 j1 w2
        omega)
      by_cases q2 : (a - (ar - 1)) * w + (d - (ac - 1)) < i * w + j
      · rw [if_pos ⟨q, by omega⟩, if_pos ⟨q, q2⟩]
      · rw [if_neg (fun w2 => by have := w2.2; omega), if_neg (fun w2 => q2 w2.2)]
    · rw [if_neg (fun w2 => q w2.1), if_neg (fun w2 => q w2.1)]
theorem o_copy {z : Z} {b : Nat → Nat} {I : Nat → Prop} {S : SS} {r c r2 c2 ar ac : Int} {cc ss : Nat} {P : Int → Z → Prop} {X : Nat → Z → Prop} (R : RC z b I S) (wf : ∀ a d, 0 ≤ a → a < S.2.2.2.1.1.1.1 → 0 ≤ d → d < S.2.2.2.1.1.1.2 → WfC (S.2.2.2.1.1.2.2.2 a d) ∧ VrC S.2.1.1 (S.2.2.2.1.1.2.2.2 a d)) (his : ∀ v, isShP v S → IdS (shOf v S)) (hcc : (pCopy r c r2 c2 ar ac S).1 = 0 → 3 * ((pCopy r c r2 c2 ar ac S).2.2.2.2.1.2.2.2.1 - S.2.2.1.2.2.2.1) + 2 ≤ (cc : Int)) (hss : (pCopy r c r2 c2 ar ac S).1 = 0 → 13 * ((pCopy r c r2 c2 ar ac S).2.2.2.2.1.2.2.2.1 - S.2.2.1.2.2.2.1) + 324 ≤ (ss : Int)) (hc1 : 1 ≤ cc) (hs1 : 6 ≤ ss) (hx1 : (pCopy r c r2 c2 ar ac S).1 = 1 → X 0 z) (hx2 : (pCopy r c r2 c2 ar ac S).1 = 2 → X 1 z) (hx3 : (pCopy r c r2 c2 ar ac S).1 = 3 → X 2 z) (h : (pCopy r c r2 c2 ar ac S).1 = 0 → ∀ y J, GrI z I J → FrZ (WL z b wCp (wkT z b) no1) z y → RC y b J (pCopy r c r2 c2 ar ac S).2.2 → WkN z y b → P (pCopy r c r2 c2 ar ac S).2.1 y) : F_X11_copy (b 0) r c r2 c2 ar ac z cc ss P X := by
  obtain ⟨cw, fr, ht, hl, hb, hk, hq⟩ := id R
  obtain ⟨wa, hwa, sw⟩ := hk.1
  have k7 := ShC_7 sw
  have bw := ShC_b sw
  have pm := hb.2.2.2.1.2
  unfold F_X11_copy F_X11_copy_39 F_X11_copy_58
  unfold pCopy at hcc hss hx1 hx2 hx3 h
  refine ⟨cK cw 0 rfl rfl, wa, hwa, k7, ?_⟩
  obtain ⟨ra0, ca0, xa0, Sp0, -⟩ := id sw
  obtain ⟨s1, s2, s3, s4, s5, s6, s7, s8, s9, -⟩ := id Sp0
  refine k_has Sp0 ?_
  by_cases e1 : hasS S.2.2.2.1.1 r c
  rotate_left
  · rw [show tb ((1 ≤ r ∧ r ≤ S.2.2.2.1.1.1.1) ∧ 1 ≤ c ∧ c ≤ S.2.2.2.1.1.1.2) = 0 by rw [tb, if_neg e1], if_pos rfl]
    rw [if_neg (fun w => e1 w.1.1)] at hx1; exact ⟨by omega, by omega, hx1 rfl⟩
  rw [show tb ((1 ≤ r ∧ r ≤ S.2.2.2.1.1.1.1) ∧ 1 ≤ c ∧ c ≤ S.2.2.2.1.1.1.2) = 1 by rw [tb, if_pos e1], if_neg (by decide)]
  refine k_has Sp0 ?_
  by_cases e2 : hasS S.2.2.2.1.1 r2 c2
  rotate_left
  · rw [show tb ((1 ≤ r2 ∧ r2 ≤ S.2.2.2.1.1.1.1) ∧ 1 ≤ c2 ∧ c2 ≤ S.2.2.2.1.1.1.2) = 0 by rw [tb, if_neg e2], if_pos rfl]
    rw [if_neg (fun w => e2 w.1.2)] at hx1; exact ⟨by omega, by omega, hx1 rfl⟩
  rw [show tb ((1 ≤ r2 ∧ r2 ≤ S.2.2.2.1.1.1.1) ∧ 1 ≤ c2 ∧ c2 ≤ S.2.2.2.1.1.1.2) = 1 by rw [tb, if_pos e2], if_neg (by decide)]
  refine k_has Sp0 ?_
  by_cases e3 : hasS S.2.2.2.1.1 ar ac
  rotate_left
  · rw [show tb ((1 ≤ ar ∧ ar ≤ S.2.2.2.1.1.1.1) ∧ 1 ≤ ac ∧ ac ≤ S.2.2.2.1.1.1.2) = 0 by rw [tb, if_neg e3], if_pos rfl]
    rw [if_neg (fun w => e3 w.2)] at hx1; exact ⟨by omega, by omega, hx1 rfl⟩
  rw [show tb ((1 ≤ ar ∧ ar ≤ S.2.2.2.1.1.1.1) ∧ 1 ≤ ac ∧ ac ≤ S.2.2.2.1.1.1.2) = 1 by rw [tb, if_pos e3], if_neg (by decide)]
  rw [if_pos ⟨⟨e1, e2⟩, e3⟩] at hcc hss hx1 hx2 hx3 h
  clear hx1
  by_cases e4 : r2 < r
  · rw [if_pos e4]; rw [if_neg (by omega)] at hx2; exact ⟨by omega, by omega, hx2 rfl⟩
  rw [if_neg e4]
  by_cases e5 : c ≤ c2
  rotate_left
  · rw [if_neg e5]; rw [if_neg (by omega)] at hx2; exact ⟨by omega, by omega, hx2 rfl⟩
  rw [if_pos e5]
  rw [if_pos (by omega)] at hcc hss hx3 h
  clear hx2
  obtain ⟨⟨b1, b2⟩, b3, b4⟩ := bw
  obtain ⟨⟨r0, r1⟩, c0, c1⟩ := e1
  obtain ⟨⟨r20, r21⟩, c20, c21⟩ := e2
  obtain ⟨⟨ar0, ar1⟩, ac0, ac1⟩ := e3
  refine ⟨ra0, s2, s5, ca0, s3, s6, ?_⟩
  rw [s8, s9, w32e (x := r2 - r) (by omega) (by omega), w32e (x := c2 - c) (by omega) (by omega), w32e (x := S.2.2.2.1.1.1.1 - ar) (by omega) (by omega), w32e (x := S.2.2.2.1.1.1.2 - ac) (by omega) (by omega), w32e (x := min (r2 - r) (S.2.2.2.1.1.1.1 - ar) + 1) (by omega) (by omega), w32e (x := min (c2 - c) (S.2.2.2.1.1.1.2 - ac) + 1) (by omega) (by omega)]
  have eh : min (r2 - r) (S.2.2.2.1.1.1.1 - ar) + 1 = cpH S.2.2.2.1.1 r r2 ar := rfl
  have ew : min (c2 - c) (S.2.2.2.1.1.1.2 - ac) + 1 = cpW S.2.2.2.1.1 c c2 ac := rfl
  have hB1 : 1 ≤ cpH S.2.2.2.1.1 r r2 ar ∧ r - 1 + cpH S.2.2.2.1.1 r r2 ar ≤ S.2.2.2.1.1.1.1 ∧ ar - 1 + cpH S.2.2.2.1.1 r r2 ar ≤ S.2.2.2.1.1.1.1 := by rw [← eh]; omega
  have wB1 : 1 ≤ cpW S.2.2.2.1.1 c c2 ac ∧ c - 1 + cpW S.2.2.2.1.1 c c2 ac ≤ S.2.2.2.1.1.1.2 ∧ ac - 1 + cpW S.2.2.2.1.1 c c2 ac ≤ S.2.2.2.1.1.1.2 := by rw [← ew]; omega
  rw [eh, ew]
  generalize cpH S.2.2.2.1.1 r r2 ar = hh at hcc hss hx3 h hB1
  generalize cpW S.2.2.2.1.1 c c2 ac = ww at hcc hss hx3 h wB1
  have hb2 : 1 ≤ hh * ww ∧ hh * ww ≤ 320 := cnt ⟨hB1.1, by omega⟩ ⟨wB1.1, by omega⟩
  have wf1 : ∀ a d, 0 ≤ a → a < S.2.2.2.1.1.1.1 → 0 ≤ d → d < S.2.2.2.1.1.1.2 → WfC (S.2.2.2.1.1.2.2.2 a d) := fun a d x1 x2 x3 x4 => (wf a d x1 x2 x3 x4).1
  refine o_within R wf1 r0 c0 hB1.1 wB1.1 hB1.2.1 wB1.2.1 ?_
  have mb := moreP_b wB1.1 hb2.2 (by omega) wf1 r0 c0 hB1.2.1 wB1.2.1 (k := 0) (by omega) (by omega)
  rw [Int.sub_zero] at mb
  have mb2 : 0 ≤ moreP S.2.2.2.1.1 r c hh ww ∧ moreP S.2.2.2.1.1 r c hh ww ≤ 19200 := mb
  rw [hb.2.2.2.1.1, w32e (x := 60000 - S.2.2.1.2.2.2.1) (by omega) (by omega)]
  by_cases e6 : S.2.2.1.2.2.2.1 + moreP S.2.2.2.1.1 r c hh ww ≤ 60000
  rotate_left
  · rw [if_neg (by omega)]; rw [if_neg e6] at hx3; exact ⟨by omega, by omega, hx3 rfl⟩
  rw [if_pos (by omega)]
  rw [if_pos e6] at hcc hss h
  replace hcc := hcc rfl
  replace hss := hss rfl
  have hcc' : 3 * (S.2.2.1.2.2.2.1 + moreP S.2.2.2.1.1 r c hh ww - S.2.2.1.2.2.2.1) + 2 ≤ (cc : Int) := by
    have e : (setW (pStep0 (setP S (S.2.2.1.2.2.2.1 + moreP S.2.2.2.1.1 r c hh ww))) (cpS2 S S.2.2.2.1.1 r c ar ac hh ww (hh * ww))).2.2.1.2.2.2.1 = S.2.2.1.2.2.2.1 + moreP S.2.2.2.1.1 r c hh ww := rfl
    rw [← e]; exact hcc
  have hss' : 13 * (S.2.2.1.2.2.2.1 + moreP S.2.2.2.1.1 r c hh ww - S.2.2.1.2.2.2.1) + 324 ≤ (ss : Int) := by
    have e : (setW (pStep0 (setP S (S.2.2.1.2.2.2.1 + moreP S.2.2.2.1.1 r c hh ww))) (cpS2 S S.2.2.2.1.1 r c ar ac hh ww (hh * ww))).2.2.1.2.2.2.1 = S.2.2.1.2.2.2.1 + moreP S.2.2.2.1.1 r c hh ww := rfl
    rw [← e]; exact hss
  clear hcc hss hx3
  rw [w32e (by omega) (by omega)]
  rintro _ rfl
  generalize hmm : S.2.2.1.2.2.2.1 + moreP S.2.2.2.1.1 r c hh ww = mm at h e6 hcc' hss'
  have n09 : b 9 ≠ b 0 := cNe cw rfl rfl rfl
  have f1 : FrZ (WL z b [(0, some 14)] no1 no1) z (wI z (b 0) 14 mm) := FrZ_wI FrZ_rf (Or.inl (WL_i (by decide) (by decide)))
  have f1' : FrZ (WL z b wCp (wkT z b) no1) z (wI z (b 0) 14 mm) := FrZ_wI FrZ_rf (Or.inl (WL_i (by decide) (by decide)))
  have R1 : RC (wI z (b 0) 14 mm) b I (setP S mm) := by
    refine ⟨CWz_fr cw f1 (by decide), Frz_fr fr f1, RCt_fr cw f1 (by decide) ht, RCl_fr cw fr f1 (by decide) hl, ?_, RCk_fr cw fr f1 (by decide) hk, RCq_fr cw fr f1 (by decide) hq⟩
    obtain ⟨g1, g2, g3, g4, g5, g6, g7⟩ := hb
    unfold RCb
    simp only [zI_wI, if_neg (fun w : b 9 = b 0 ∧ _ => n09 w.1)]
    refine ⟨g1, by simp; exact g2, by simp; exact g3, ⟨by rw [if_pos ⟨trivial, trivial⟩]; rfl, by show 0 ≤ mm; omega, e6⟩, by simp; exact g5, by simp; exact g6, by simp; exact g7⟩
  generalize hz1 : wI z (b 0) 14 mm = z1 at f1 f1' R1
  have kz : ∀ a, zK z1 a = zK z a := fun a => by rw [← hz1]; rfl
  obtain ⟨cw1, fr1, -, -, -, hk1, -⟩ := id R1
  obtain ⟨wa1, hwa1, sw1⟩ := hk1.1
  have k71 := ShC_7 sw1
  have sw1' : ShC z1 I wa1 S.2.2.2.1.1 := sw1
  refine ⟨wa1, hwa1, k71, 2, 324, by omega, by omega, ?_⟩
  refine NS_twin sw1' (Nat.le_refl _) (Nat.le_refl _) (fun q x ra ca xa y0 ⟨⟨i1, i2⟩, Sp⟩ g4 g5 g6 N0 => ?_)
  have nIx : ¬ I x := fun w => (fr1 x w).1 N0.2.1
  have his1 : ∀ v, isShP v (setP S mm) → IdS (shOf v (setP S mm)) := his
  have eshf : ∀ dr dc k, shfC (setP S mm) dr dc k = shfC S dr dc k := fun dr dc k => rfl
  unfold F_X11_copy_164
  refine lp_I (S := Int × Z × Nat × Nat) (fun t => (0 ≤ t.1 ∧ t.1 ≤ hh) ∧ (3 * sumN (pcK S.2.2.2.1.1 r c ww) (hh * ww - t.1 * ww).toNat (t.1 * ww) ≤ (t.2.2.1 : Int) ∧ 13 * sumN (pcK S.2.2.2.1.1 r c ww) (hh * ww - t.1 * ww).toNat (t.1 * ww) ≤ (t.2.2.2 : Int)) ∧ ∃ F J, NS z1 q x ra ca S.2.2.2.1.1.1.1 S.2.2.2.1.1.1.2 F t.2.1 ∧ GrI z1 I J ∧ Frz t.2.1 b J ∧ ¬ J x ∧ ∀ a d, 0 ≤ a → a < S.2.2.2.1.1.1.1 → 0 ≤ d → d < S.2.2.2.1.1.1.2 → ContC t.2.1 J (F a d) (cpC S S.2.2.2.1.1 r c ar ac hh ww (t.1 * ww) a d)) (fun t => (hh - t.1).toNat) ?_ (0, y0, cc - 2, ss - 324) ⟨⟨by show (0 : Int) ≤ 0; decide, by show (0 : Int) ≤ hh; omega⟩, ⟨?_, ?_⟩, _, I, N0, GrI_rf, (RC_nW N0.2.2.2.1 R1).2.1, nIx, fun a d a0 a1 d0 d1 => ?_⟩
  · rintro G ⟨i, y, c', s'⟩ ⟨⟨i0, i1'⟩, ⟨rc, rs⟩, F, J, NY, iJ, fJ, nJx, hF⟩ ih
    simp only at i0 i1' rc rs NY fJ hF
    unfold L_X11_copy_164
    dsimp only
    have hiw : i * ww ≤ hh * ww := Int.mul_le_mul_of_nonneg_right i1' (by omega)
    have hiw0 : 0 ≤ i * ww := Int.mul_nonneg i0 (by omega)
    by_cases ei : hh ≤ i
    · rw [if_pos ei]
      have e : i = hh := by omega
      subst e
      show zK y (b 0) = 12 ∧ F_X11_step (b 0) (some q) y _
      have fnw := NY.2.2.2.1
      have Ry := RC_nW fnw R1
      have RyJ := RC_I iJ.1 fJ Ry
      have kra : zK z1 ra ≠ 0 := by rw [Sp.2.2.2.2.1]; decide
      have kca : zK z1 ca ≠ 0 := by rw [Sp.2.2.2.2.2.1]; decide
      obtain ⟨sq, RJ⟩ := NS_fix (s := cpS2 S S.2.2.2.1.1 r c ar ac i ww (i * ww)) cw1 RyJ NY (iJ.1 _ i1) (iJ.1 _ i2) (fun k a d => by rw [(fnw.2 ra k kra (fun w => w)).1]; exact g4 k a d) (fun k a d => by rw [(fnw.2 ca k kca (fun w => w)).1]; exact g5 k a d) (fun a d a0 a1 d0 d1 => hF a d a0 a1 d0 d1)
      refine ⟨cK Ry.1 0 rfl rfl, o_step RJ sq (fun w fw ew Rw => ?_)⟩
      have ey11 : zO y (b 0) 11 = zO z (b 0) 11 := ((fnw.2 (b 0) 11 (by rw [cK cw1 0 rfl rfl]; decide) (fun w => w)).2.2).trans (bI cw f1 (R := [(0, some 11)]) (by decide) (k := 0) (by decide) (i := 11) (wHas_i (by decide))).2.2
      rw [w32e (by omega) (by omega)]
      refine h rfl w _ (GrI_pre f1 ⟨fun a ha => Or.inl (iJ.1 a ha), fun a ha => ha.elim (iJ.2 a) (fun e => Or.inr (by rw [e]; exact NY.2.1))⟩) ?_ Rw (WkN_pre cw f1 (by decide) (WkN_nw cw1 fnw NY.1 NY.2.2.2.2.2.1 RJ.1 (ShC_7 sq) fw ew))
      refine FrZ_wl f1' (FrZ_wl (y := y) (FrZ_mono fnw (fun _ _ _ w => w.elim)) (FrZ_mono fw (fun a i ha w => ?_)))
      rcases w with ⟨t, t1, t2, t3⟩ | w | w
      · exact Or.inl ⟨t, List.mem_cons_of_mem _ t1, t2, t3⟩
      · refine Or.inr (Or.inl ⟨?_, w.2⟩)
        show zO z (b 0) 11 = some a
        rw [← ey11]; exact w.1
      · exact absurd w.1 id
    · rw [if_neg ei]
      have hiw2 : (i + 1) * ww ≤ hh * ww := Int.mul_le_mul_of_nonneg_right (by omega) (by omega)
      have eiw : (i + 1) * ww = i * ww + ww := by rw [Int.add_mul, Int.one_mul]
      unfold F_X11_copy_174
      refine lp_I (S := Int × Z × Nat × Nat) (fun t => (0 ≤ t.1 ∧ t.1 ≤ ww) ∧ (3 * sumN (pcK S.2.2.2.1.1 r c ww) (hh * ww - (i * ww + t.1)).toNat (i * ww + t.1) ≤ (t.2.2.1 : Int) ∧ 13 * sumN (pcK S.2.2.2.1.1 r c ww) (hh * ww - (i * ww + t.1)).toNat (i * ww + t.1) ≤ (t.2.2.2 : Int)) ∧ ∃ F J, NS z1 q x ra ca S.2.2.2.1.1.1.1 S.2.2.2.1.1.1.2 F t.2.1 ∧ GrI z1 I J ∧ Frz t.2.1 b J ∧ ¬ J x ∧ ∀ a d, 0 ≤ a → a < S.2.2.2.1.1.1.1 → 0 ≤ d → d < S.2.2.2.1.1.1.2 → ContC t.2.1 J (F a d) (cpC S S.2.2.2.1.1 r c ar ac hh ww (i * ww + t.1) a d)) (fun t => (ww - t.1).toNat) ?_ (0, y, c', s') ⟨⟨by show (0 : Int) ≤ 0; decide, by show (0 : Int) ≤ ww; omega⟩, ⟨by show 3 * sumN _ (hh * ww - (i * ww + 0)).toNat (i * ww + 0) ≤ (c' : Int); rw [Int.add_zero]; exact rc, by show 13 * sumN _ (hh * ww - (i * ww + 0)).toNat (i * ww + 0) ≤ (s' : Int); rw [Int.add_zero]; exact rs⟩, F, J, NY, iJ, fJ, nJx, fun a d a0 a1 d0 d1 => by show ContC y J (F a d) (cpC S S.2.2.2.1.1 r c ar ac hh ww (i * ww + 0) a d); rw [Int.add_zero]; exact hF a d a0 a1 d0 d1⟩
      rintro G2 ⟨j, v, c3, s3'⟩ ⟨⟨j0, j1⟩, ⟨rc2, rs2⟩, F2, J2, NV, iJ2, fJ2, nJ2x, hF2⟩ ih2
      simp only at j0 j1 rc2 rs2 NV fJ2 hF2
      unfold L_X11_copy_174
      dsimp only
      by_cases ej : ww ≤ j
      · rw [if_pos ej]
        show G (w32 (i + 1), v, c3, s3')
        rw [w32e (by omega) (by omega)]
        have ejw : i * ww + j = (i + 1) * ww := by omega
        rw [ejw] at rc2 rs2 hF2
        exact ih (i + 1, v, c3, s3') ⟨⟨by show 0 ≤ i + 1; omega, by show i + 1 ≤ hh; omega⟩, ⟨rc2, rs2⟩, F2, J2, NV, iJ2, fJ2, nJ2x, hF2⟩ (by show (hh - (i + 1)).toNat < (hh - i).toNat; omega)
      · rw [if_neg ej, w32e (x := r + i) (by omega) (by omega), w32e (x := c + j) (by omega) (by omega), w32e (x := j + 1) (by omega) (by omega), w32e (x := ar + i) (by omega) (by omega), w32e (x := ac + j) (by omega) (by omega), w32e (x := ar - r) (by omega) (by omega), w32e (x := ac - c) (by omega) (by omega)]
        have fnw := NV.2.2.2.1
        have Rv := RC_nW fnw R1
        have kb0 := cK Rv.1 0 rfl rfl
        obtain ⟨wv, hwv, swv⟩ := Rv.2.2.2.2.2.1.1
        have swv' : ShC v I wv S.2.2.2.1.1 := swv
        refine ⟨kb0, wv, hwv, ShC_7 swv', o_cellAt swv' (fun e he => ?_)⟩
        rw [if_pos ⟨⟨by omega, by omega⟩, by omega, by omega⟩] at he
        have dv := rw_div (r := i) j0 (show j < ww by omega)
        have ek : pcK S.2.2.2.1.1 r c ww (i * ww + j) = (pcN (S.2.2.2.1.1.2.2.2 (r + i - 1) (c + j - 1)) : Int) := by
          unfold pcK; rw [dv.1, dv.2, show r - 1 + i = r + i - 1 by omega, show c - 1 + j = c + j - 1 by omega]
        rw [show (hh * ww - (i * ww + j)).toNat = (hh * ww - (i * ww + (j + 1))).toNat + 1 by omega, sumN, ek, show i * ww + j + 1 = i * ww + (j + 1) by omega] at rc2 rs2
        have rb := moreP_b wB1.1 hb2.2 (by omega) wf1 r0 c0 hB1.2.1 wB1.2.1 (k := i * ww + (j + 1)) (by omega) (by omega)
        obtain ⟨wfc, vrc⟩ := wf (r + i - 1) (c + j - 1) (by omega) (by omega) (by omega) (by omega)
        generalize hcon : S.2.2.2.1.1.2.2.2 (r + i - 1) (c + j - 1) = con at he rc2 rs2 wfc vrc
        refine ⟨3 * pcN con, 13 * pcN con, by omega, by omega, ?_⟩
        refine o_shiftC (S := setP S mm) Rv he wfc vrc his1 (by omega) (by omega) (Nat.le_refl _) (Nat.le_refl _) (fun e' v' N fv' nN ce => ?_)
        have NV' := NS_nW NV fv'
        have k2 : ∀ w', e' = some w' → zK v' w' = 2 := fun w' hw' => (ContC_k ce w' hw').1
        refine ⟨q, rfl, NV'.2.2.2.2.1.1, NS_put NV' (by omega) (by omega) k2 (fun v'' NV'' fx => ?_)⟩
        have nNx : ¬ N x := fun w => by
          have := (nN x w).1
          rw [NV.2.2.2.2.1.2.2.2.2.2.2.1] at this; cases this
        have fJ3 : Frz v' b (fun a => J2 a ∨ N a) := Frz_nw Rv.1 fJ2 fv' nN
        have fJ4 : Frz v'' b (fun a => J2 a ∨ N a) := by
          intro a ha
          obtain ⟨p1, p2, p3, p4⟩ := fJ3 a ha
          have e := (fx.1 a p1).1
          exact ⟨by rw [e]; exact p1, by rw [e]; exact p2, by rw [e]; exact p3, p4⟩
        have nJ4 : ¬ (J2 x ∨ N x) := fun w => w.elim nJ2x nNx
        have fC : ∀ {t : Option Nat} {k : Cont}, ContC v' (fun a => J2 a ∨ N a) t k → ContC v'' (fun a => J2 a ∨ N a) t k := fun hk => ContC_fr fx (fun a _ ha w => nJ4 (w ▸ ha)) hk
        refine ih2 (j + 1, v'', c3 - 3 * pcN con, s3' - 13 * pcN con) ⟨⟨by show 0 ≤ j + 1; omega, by show j + 1 ≤ ww; omega⟩, ⟨by show 3 * sumN _ (hh * ww - (i * ww + (j + 1))).toNat (i * ww + (j + 1)) ≤ ((c3 - 3 * pcN con : Nat) : Int); omega, by show 13 * sumN _ (hh * ww - (i * ww + (j + 1))).toNat (i * ww + (j + 1)) ≤ ((s3' - 13 * pcN con : Nat) : Int); omega⟩, _, (fun a => J2 a ∨ N a), NV'', ⟨fun a ha => Or.inl (iJ2.1 a ha), fun a ha => ha.elim (iJ2.2 a) (fun e => Or.inr (new_of NV.2.2.2.1 (nN a e).1))⟩, fJ4, nJ4, fun a d a0 a1 d0 d1 => ?_⟩ (by show (ww - (j + 1)).toNat < (ww - j).toNat; omega)
        show ContC v'' (fun a => J2 a ∨ N a) (if a = ar + i - 1 ∧ d = ac + j - 1 then e' else F2 a d) (cpC S S.2.2.2.1.1 r c ar ac hh ww (i * ww + (j + 1)) a d)
        rw [cpC_s i0 (by omega) j0 (by omega)]
        by_cases qq : a = ar + i - 1 ∧ d = ac + j - 1
        · rw [if_pos qq, if_pos qq, hcon]
          exact fC (ContC_I (fun t ht => ht.elim (fun ht => Or.inl (iJ2.1 t ht)) (fun ht => Or.inr ht)) ce)
        · rw [if_neg qq, if_neg qq]
          exact fC (ContC_I (fun t ht => Or.inl ht) (ContC_nw fv' (hF2 a d a0 a1 d0 d1)))
  · show 3 * sumN _ (hh * ww - 0 * ww).toNat (0 * ww) ≤ ((cc - 2 : Nat) : Int)
    rw [Int.zero_mul, Int.sub_zero]
    have : sumN (pcK S.2.2.2.1.1 r c ww) (hh * ww).toNat 0 = moreP S.2.2.2.1.1 r c hh ww := rfl
    rw [this]; omega
  · show 13 * sumN _ (hh * ww - 0 * ww).toNat (0 * ww) ≤ ((ss - 324 : Nat) : Int)
    rw [Int.zero_mul, Int.sub_zero]
    have : sumN (pcK S.2.2.2.1.1 r c ww) (hh * ww).toNat 0 = moreP S.2.2.2.1.1 r c hh ww := rfl
    rw [this]; omega
  · show ContC y0 I (zO z1 xa (a * S.2.2.2.1.1.1.2 + d)) (cpC S S.2.2.2.1.1 r c ar ac hh ww (0 * ww) a d)
    rw [Int.zero_mul, cpC_0 S S.2.2.2.1.1 r c ar ac hh ww a d wB1.1]
    exact ContC_nw N0.2.2.2.1 (g6 a d a0 a1 d0 d1)
