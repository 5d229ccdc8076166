/-! ===== tools for the predicates ===== -/
theorem w32e {x : Int} (h1 : -2147483648 ≤ x) (h2 : x ≤ 2147483647) : w32 x = x := w32_id ⟨h1, h2⟩
theorem w64e {x : Int} (h1 : -9223372036854775808 ≤ x) (h2 : x ≤ 9223372036854775807) : w64 x = x := w64_id ⟨h1, h2⟩
theorem w8e {x : Int} (h1 : -128 ≤ x) (h2 : x ≤ 127) : w8 x = x := w8_id ⟨h1, h2⟩
theorem tmodE {a b : Int} (h : 0 ≤ a) : Int.tmod a b = a % b := Int.tmod_eq_emod_of_nonneg h
theorem tdivE {a b : Int} (h : 0 ≤ a) : Int.tdiv a b = a / b := Int.tdiv_eq_ediv_of_nonneg h
theorem z1_0 : Z1 0 := Or.inl rfl
theorem z1_1 : Z1 1 := Or.inr rfl
/-- a truth as an int -/
def tb (p : Prop) [Decidable p] : Int := if p then 1 else 0
theorem tb_z {p : Prop} [Decidable p] : Z1 (tb p) := by unfold tb; split <;> decide
theorem tb_0 {p : Prop} [Decidable p] : tb p = 0 ↔ ¬ p := by unfold tb; split <;> simp_all
/-- the first place below n (from k on, m places) where f is x; -1 if none -/
def fst1 (f : Int → Int) (x : Int) : Nat → Int → Int
  | 0, _ => -1
  | m + 1, k => if f k = x then k else fst1 f x m (k + 1)
def plc (f : Int → Int) (x n : Int) : Int := fst1 f x n.toNat 0
theorem fst1_r (f : Int → Int) (x : Int) : ∀ (m : Nat) (k : Int), fst1 f x m k = -1 ∨ (k ≤ fst1 f x m k ∧ fst1 f x m k < k + m ∧ f (fst1 f x m k) = x)
  | 0, k => Or.inl rfl
  | m + 1, k => by
    rw [fst1]
    by_cases h : f k = x
    · rw [if_pos h]; exact Or.inr ⟨by omega, by omega, h⟩
    · rw [if_neg h]
      rcases fst1_r f x m (k + 1) with e | ⟨h1, h2, h3⟩
      · exact Or.inl e
      · exact Or.inr ⟨by omega, by omega, h3⟩
theorem plc_r (f : Int → Int) (x n : Int) : plc f x n = -1 ∨ (0 ≤ plc f x n ∧ plc f x n < n ∧ f (plc f x n) = x) := by
  rcases fst1_r f x n.toNat 0 with e | ⟨h1, h2, h3⟩
  · exact Or.inl e
  · exact Or.inr ⟨h1, by unfold plc; omega, h3⟩
theorem plc_ge (f : Int → Int) (x n : Int) : -1 ≤ plc f x n := by rcases plc_r f x n with h | h <;> omega
theorem fst1_c {f f' : Int → Int} {x : Int} : ∀ (m : Nat) (k : Int), (∀ j, k ≤ j → j < k + m → f j = f' j) → fst1 f x m k = fst1 f' x m k
  | 0, _, _ => rfl
  | m + 1, k, h => by
    rw [fst1, fst1, h k (by omega) (by omega), fst1_c m (k + 1) (fun j h1 h2 => h j (by omega) (by omega))]
theorem plc_c {f f' : Int → Int} {x n : Int} (h : ∀ j, 0 ≤ j → j < n → f j = f' j) : plc f x n = plc f' x n := fst1_c _ _ (fun j h1 h2 => h j h1 (by omega))
/-! ===== the reference's small methods ===== -/
theorem i_in {v lo hi : Int} {P : Int → Prop} (h : P (tb (lo ≤ v ∧ v ≤ hi))) : F_X12_in v lo hi P := by
  unfold F_X12_in F_X12_in_14 F_X12_in_15
  by_cases c : v < lo
  · rw [if_pos c]; rw [tb, if_neg (by omega)] at h; exact ⟨z1_0, h⟩
  · rw [if_neg c]
    by_cases c2 : hi < v
    · rw [if_pos c2]; rw [tb, if_neg (by omega)] at h; exact ⟨z1_0, h⟩
    · rw [if_neg c2]; rw [tb, if_pos (by omega)] at h; exact ⟨z1_1, h⟩
theorem i_throwing {x : Int} {u : Mu} {P : Int → Mu → Prop} (h : P 0 (uI u 0 0 x)) : F_X12_throwing x u P := by
  unfold F_X12_throwing; rintro _ rfl; exact h
/-- how many lines of an axis, the line at a place -/
def lnM (u : Mu) (s ax : Int) : Int := if ax = 0 then mI u 1 s else mI u 2 s
def idM (u : Mu) (s ax k : Int) : Int := if ax = 0 then mI u 3 (32 * s + k) else mI u 4 (10 * s + k)
def mst (ax : Int) : Int := if ax = 0 then 32 else 10
theorem i_linesOf {s ax : Int} {u : Mu} {P : Int → Prop} (h0 : 0 ≤ s) (h1 : s < 122) (h : P (lnM u s ax)) : F_X12_linesOf s ax u P := by
  unfold F_X12_linesOf F_X12_linesOf_19; unfold lnM at h
  split
  · next c => rw [if_pos c] at h; exact ⟨h0, h1, h⟩
  · next c => rw [if_neg c] at h; exact ⟨h0, h1, h⟩
theorem i_lineAt {s ax k : Int} {u : Mu} {P : Int → Prop} (h0 : 0 ≤ s) (h1 : s < 122) (k0 : 0 ≤ k) (k1 : k < mst ax) (h : P (idM u s ax k)) : F_X12_lineAt s ax k u P := by
  unfold F_X12_lineAt F_X12_lineAt_29; unfold idM at h; unfold mst at k1
  split
  · next c =>
    rw [if_pos c] at h k1
    simp (disch := omega) only [w32e]
    exact ⟨by omega, by omega, h⟩
  · next c =>
    rw [if_neg c] at h k1
    simp (disch := omega) only [w32e]
    exact ⟨by omega, by omega, h⟩
def plM (u : Mu) (s ax id : Int) : Int := plc (idM u s ax) id (lnM u s ax)
theorem i_placeOf {s ax id : Int} {u : Mu} {P : Int → Prop} (h0 : 0 ≤ s) (h1 : s < 122) (hn : lnM u s ax ≤ mst ax) (h : P (plM u s ax id)) : F_X12_placeOf s ax id u P := by
  unfold F_X12_placeOf F_X12_placeOf_3
  have hm : mst ax ≤ 32 := by unfold mst; split <;> omega
  refine lp_I (fun k => 0 ≤ k ∧ k ≤ 32 ∧ plM u s ax id = fst1 (idM u s ax) id (lnM u s ax - k).toNat k) (fun k => (33 - k).toNat) ?_ 0 ⟨by omega, by omega, by unfold plM plc; congr 1; omega⟩
  rintro G k ⟨k0, k1, hk⟩ ih
  unfold L_X12_placeOf_3
  refine i_linesOf h0 h1 ?_
  by_cases c : lnM u s ax ≤ k
  · rw [if_pos c]
    rw [show (lnM u s ax - k).toNat = 0 by omega, fst1] at hk
    rw [hk] at h; exact h
  · rw [if_neg c]
    refine i_lineAt h0 h1 k0 (by omega) ?_
    rw [show (lnM u s ax - k).toNat = (lnM u s ax - (k + 1)).toNat + 1 by omega, fst1] at hk
    by_cases c2 : idM u s ax k = id
    · rw [if_pos c2]; rw [if_pos c2] at hk; rw [hk] at h; exact h
    · rw [if_neg c2]; rw [if_neg c2] at hk
      rw [w32e (by omega) (by omega)]
      exact ih (k + 1) ⟨by omega, by omega, hk⟩ (by omega)
theorem i_isCell {s r c : Int} {u : Mu} {P : Int → Prop} (h0 : 0 ≤ s) (h1 : s < 122) (h : P (tb ((1 ≤ r ∧ r ≤ mI u 1 s) ∧ (1 ≤ c ∧ c ≤ mI u 2 s)))) : F_X12_isCell s r c u P := by
  unfold F_X12_isCell F_X12_isCell_32 F_X12_isCell_33
  refine ⟨h0, h1, i_in ?_⟩
  by_cases c1 : 1 ≤ r ∧ r ≤ mI u 1 s
  · rw [if_neg (by rw [tb_0]; exact not_not_intro c1)]
    refine ⟨h0, h1, i_in ?_⟩
    by_cases c2 : 1 ≤ c ∧ c ≤ mI u 2 s
    · rw [if_neg (by rw [tb_0]; exact not_not_intro c2)]; rw [tb, if_pos ⟨c1, c2⟩] at h; exact ⟨z1_1, h⟩
    · rw [if_pos (by rw [tb_0]; exact c2)]; rw [tb, if_neg (fun z => c2 z.2)] at h; exact ⟨z1_0, h⟩
  · rw [if_pos (by rw [tb_0]; exact c1)]; rw [tb, if_neg (fun z => c1 z.1)] at h; exact ⟨z1_0, h⟩
theorem i_cellAt {s r c : Int} {u : Mu} {P : Int → Prop} (h0 : 0 ≤ s) (h1 : s < 122) (r0 : 1 ≤ r) (r1 : r ≤ 32) (c0 : 1 ≤ c) (c1 : c ≤ 10) (h : P (mI u 5 (320 * s + 10 * (r - 1) + (c - 1)))) : F_X12_cellAt s r c u P := by
  unfold F_X12_cellAt
  simp (disch := omega) only [w32e]
  rw [show 320 * s + 10 * (r - 1) + c - 1 = 320 * s + 10 * (r - 1) + (c - 1) by omega]
  exact ⟨by omega, by omega, h⟩
theorem i_setCell {r c x : Int} {u : Mu} {P : Mu → Prop} (r0 : 1 ≤ r) (r1 : r ≤ 32) (c0 : 1 ≤ c) (c1 : c ≤ 10) (h : P (uI u 5 (12800 + 10 * (r - 1) + (c - 1)) x)) : F_X12_setCell r c x u P := by
  unfold F_X12_setCell
  simp (disch := omega) only [w32e]
  rw [show 12800 + 10 * (r - 1) + c - 1 = 12800 + 10 * (r - 1) + (c - 1) by omega]
  refine ⟨by omega, by omega, ?_⟩
  rintro _ rfl; exact h
/-- the content of a row and a column by their ids; -1 without them -/
def coM (u : Mu) (s row col : Int) : Int := if plM u s 0 row < 0 ∨ plM u s 1 col < 0 then -1 else mI u 5 (320 * s + 10 * plM u s 0 row + plM u s 1 col)
theorem i_contentOf {s row col : Int} {u : Mu} {P : Int → Prop} (h0 : 0 ≤ s) (h1 : s < 122) (hr : mI u 1 s ≤ 32) (hc : mI u 2 s ≤ 10) (h : P (coM u s row col)) : F_X12_contentOf s row col u P := by
  have n0 : lnM u s 0 = mI u 1 s := rfl
  have n1 : lnM u s 1 = mI u 2 s := rfl
  unfold F_X12_contentOf F_X12_contentOf_28 F_X12_contentOf_51
  refine i_placeOf h0 h1 (by rw [n0]; exact hr) ?_
  refine i_placeOf h0 h1 (by rw [n1]; exact hc) ?_
  have b0 := plc_r (idM u s 0) row (lnM u s 0)
  have b1 := plc_r (idM u s 1) col (lnM u s 1)
  unfold coM at h
  change plM u s 0 row = -1 ∨ _ at b0
  change plM u s 1 col = -1 ∨ _ at b1
  by_cases c1 : plM u s 0 row < 0
  · rw [if_pos c1]; rw [if_pos (Or.inl c1)] at h; exact h
  · rw [if_neg c1]
    by_cases c2 : plM u s 1 col < 0
    · rw [if_neg (by omega)]; rw [if_pos (Or.inr c2)] at h; exact h
    · rw [if_pos (by omega)]; rw [if_neg (by omega)] at h
      have e0 : plc (idM u s 0) row (lnM u s 0) = plM u s 0 row := rfl
      have e1 : plc (idM u s 1) col (lnM u s 1) = plM u s 1 col := rfl
      rw [e0] at b0; rw [e1] at b1
      simp (disch := omega) only [w32e]
      exact ⟨by omega, by omega, h⟩
/-- n ints of array k from place f on laid to place t on -/
def cpM (u : Mu) (k : Nat) (f t n : Int) : Mu := (fun k' i => if k' = k ∧ t ≤ i ∧ i < t + n then u.1 k (f + (i - t)) else u.1 k' i, u.2)
theorem mI_cpM (u : Mu) (k : Nat) (f t n : Int) (k' : Nat) (i : Int) : mI (cpM u k f t n) k' i = if k' = k ∧ t ≤ i ∧ i < t + n then mI u k (f + (i - t)) else mI u k' i := rfl
theorem mG_cpM (u : Mu) (k : Nat) (f t n : Int) (k' : Nat) (i : Int) : mG (cpM u k f t n) k' i = mG u k' i := rfl
theorem Mu_ext {u w : Mu} (h1 : ∀ k i, mI u k i = mI w k i) (h2 : ∀ k i, mG u k i = mG w k i) : u = w := by
  obtain ⟨a, b⟩ := u; obtain ⟨c, d⟩ := w
  have e1 : a = c := by funext k i; exact h1 k i
  have e2 : b = d := by funext k i; exact h2 k i
  rw [e1, e2]
theorem cpM_0 (u : Mu) (k : Nat) (f t : Int) : cpM u k f t 0 = u := Mu_ext (fun k' i => by rw [mI_cpM, if_neg (by omega)]) (fun _ _ => rfl)
theorem cpM_s {u : Mu} {k : Nat} {f t j n : Int} (hd : f = t ∨ f + n ≤ t ∨ t + n ≤ f) (h0 : 0 ≤ j) (h1 : j < n) : uI (cpM u k f t j) k (t + j) (mI (cpM u k f t j) k (f + j)) = cpM u k f t (j + 1) := by
  refine Mu_ext (fun k' i => ?_) (fun _ _ => rfl)
  rw [mI_uI, mI_cpM, mI_cpM, mI_cpM]
  by_cases c : k' = k ∧ i = t + j
  · rw [if_pos c, if_neg (show ¬ (k = k ∧ t ≤ f + j ∧ f + j < t + j) by omega), if_pos (show k' = k ∧ t ≤ i ∧ i < t + (j + 1) by omega)]
    congr 1; omega
  · rw [if_neg c]
    by_cases c3 : k' = k ∧ t ≤ i ∧ i < t + j
    · rw [if_pos c3, if_pos (by omega)]
    · rw [if_neg c3, if_neg (by omega)]
/-- a sheet's slot as another one -/
def cpS (u : Mu) (a b : Int) : Mu := cpM (cpM (cpM (uI (uI u 1 b (mI u 1 a)) 2 b (mI u 2 a)) 3 (32 * a) (32 * b) 32) 4 (10 * a) (10 * b) 10) 5 (320 * a) (320 * b) 320
def cpF (u : Mu) (a b : Int) : Mu := if b = 40 then uI (cpS u a b) 0 65 0 else cpS u a b
theorem i_copySheet {a b : Int} {u : Mu} {P : Mu → Prop} (a0 : 0 ≤ a) (a1 : a < 122) (b0 : 0 ≤ b) (b1 : b < 122) (h : P (cpF u a b)) : F_X12_copySheet a b u P := by
  unfold F_X12_copySheet
  refine ⟨a0, a1, b0, b1, ?_⟩
  rintro _ rfl
  refine ⟨a0, a1, b0, b1, ?_⟩
  rintro _ rfl
  rw [show mI (uI u 1 b (mI u 1 a)) 2 a = mI u 2 a by rw [mI_uI, if_neg (by omega)]]
  unfold F_X12_copySheet_26
  generalize hv : uI (uI u 1 b (mI u 1 a)) 2 b (mI u 2 a) = v
  refine lp_I (fun q => 0 ≤ q.1 ∧ q.1 ≤ 32 ∧ q.2 = cpM v 3 (32 * a) (32 * b) q.1) (fun q => (32 - q.1).toNat) ?_ (0, v) ⟨by omega, by omega, (cpM_0 v 3 _ _).symm⟩
  rintro G ⟨j, w⟩ ⟨j0, j1, hw⟩ ih
  simp only at j0 j1 hw
  subst hw
  unfold L_X12_copySheet_26
  by_cases c : 32 ≤ j
  · rw [if_pos c]
    have ej : j = 32 := by omega
    subst ej
    unfold F_X12_copySheet_62
    generalize hv2 : cpM v 3 (32 * a) (32 * b) 32 = v2
    refine lp_I (fun q => 0 ≤ q.1 ∧ q.1 ≤ 10 ∧ q.2 = cpM v2 4 (10 * a) (10 * b) q.1) (fun q => (10 - q.1).toNat) ?_ (0, v2) ⟨by omega, by omega, (cpM_0 v2 4 _ _).symm⟩
    rintro G2 ⟨j, w⟩ ⟨j0, j1, hw⟩ ih2
    simp only at j0 j1 hw
    subst hw
    unfold L_X12_copySheet_62
    by_cases c : 10 ≤ j
    · rw [if_pos c]
      have ej : j = 10 := by omega
      subst ej
      unfold F_X12_copySheet_98
      generalize hv3 : cpM v2 4 (10 * a) (10 * b) 10 = v3
      refine lp_I (fun q => 0 ≤ q.1 ∧ q.1 ≤ 320 ∧ q.2 = cpM v3 5 (320 * a) (320 * b) q.1) (fun q => (320 - q.1).toNat) ?_ (0, v3) ⟨by omega, by omega, (cpM_0 v3 5 _ _).symm⟩
      rintro G3 ⟨j, w⟩ ⟨j0, j1, hw⟩ ih3
      simp only at j0 j1 hw
      subst hw
      unfold L_X12_copySheet_98
      by_cases c : 320 ≤ j
      · rw [if_pos c]
        have ej : j = 320 := by omega
        subst ej
        unfold F_X12_copySheet_146
        have e : cpM v3 5 (320 * a) (320 * b) 320 = cpS u a b := by rw [← hv3, ← hv2, ← hv]; rfl
        unfold cpF at h
        show if b = 40 then _ else _
        by_cases c4 : b = 40
        · rw [if_pos c4]; rw [if_pos c4] at h
          rintro _ rfl; rw [e]; exact h
        · rw [if_neg c4]; rw [if_neg c4] at h; rw [e]; exact h
      · rw [if_neg c]
        simp (disch := omega) only [w32e]
        refine ⟨by omega, by omega, by omega, by omega, ?_⟩
        rintro _ rfl
        rw [cpM_s (n := 320) (by omega) j0 (by omega)]
        exact ih3 (j + 1, _) ⟨by show 0 ≤ j + 1; omega, by show j + 1 ≤ 320; omega, rfl⟩ (by show (320 - (j + 1)).toNat < (320 - j).toNat; omega)
    · rw [if_neg c]
      simp (disch := omega) only [w32e]
      refine ⟨by omega, by omega, by omega, by omega, ?_⟩
      rintro _ rfl
      rw [cpM_s (n := 10) (by omega) j0 (by omega)]
      exact ih2 (j + 1, _) ⟨by show 0 ≤ j + 1; omega, by show j + 1 ≤ 10; omega, rfl⟩ (by show (10 - (j + 1)).toNat < (10 - j).toNat; omega)
  · rw [if_neg c]
    simp (disch := omega) only [w32e]
    refine ⟨by omega, by omega, by omega, by omega, ?_⟩
    rintro _ rfl
    rw [cpM_s (n := 32) (by omega) j0 (by omega)]
    exact ih (j + 1, _) ⟨by show 0 ≤ j + 1; omega, by show j + 1 ≤ 32; omega, rfl⟩ (by show (32 - (j + 1)).toNat < (32 - j).toNat; omega)
theorem i_stepAt {k : Int} {u : Mu} {P : Int → Prop} (f0 : 0 ≤ mI u 0 15) (f1 : mI u 0 15 < 40) (k0 : 0 ≤ k) (k1 : k < 40) (h : P (41 + (mI u 0 15 + k) % 40)) : F_X12_stepAt k u P := by
  unfold F_X12_stepAt
  rw [w32e (x := mI u 0 15 + k) (by omega) (by omega), tmodE (by omega), w32e (x := (mI u 0 15 + k) % 40) (by omega) (by omega), w32e (by omega) (by omega)]
  exact h
theorem i_forgetSteps {u : Mu} {P : Mu → Prop} (h : P (uI (uI u 0 16 0) 0 17 0)) : F_X12_forgetSteps u P := by
  unfold F_X12_forgetSteps
  rintro _ rfl _ rfl; exact h
theorem i_head {u : Mu} {P : Int → Prop} (h0 : 0 ≤ mI u 0 12) (h1 : mI u 0 12 < 6) (h : P (mI u 11 (mI u 0 12))) : F_X12_head u P := by
  unfold F_X12_head
  exact ⟨h0, h1, h⟩
