/-! ===== merging: two lines put together ===== -/
def gI (L : List Int) (i : Int) : Int := L.getD i.toNat 0
def idxL (L : List Int) (id : Int) : Int := plc (gI L) id (L.length : Int)
def insL (L : List Int) (a id : Int) : List Int := L.take a.toNat ++ id :: L.drop a.toNat
noncomputable def jn1 (p o b : Sh) (ax : Int) : Nat → Int → List Int
  | 0, _ => []
  | m + 1, k => ci (stP p o b ax (idS p ax k)) [idS p ax k] [] ++ jn1 p o b ax m (k + 1)
noncomputable def jn2 (p o b : Sh) (ax : Int) : Nat → Int → List Int → Int → List Int
  | 0, _, L, _ => L
  | m + 1, k, L, a => if 0 ≤ plS p ax (idS o ax k) then jn2 p o b ax m (k + 1) L (idxL L (idS o ax k) + 1) else ci (stP o p b ax (idS o ax k)) (jn2 p o b ax m (k + 1) (insL L a (idS o ax k)) (a + 1)) (jn2 p o b ax m (k + 1) L a)
noncomputable def jnL (p o b : Sh) (ax : Int) : List Int := jn2 p o b ax (lnS o ax).toNat 0 (jn1 p o b ax (lnS p ax).toNat 0) 0
/-- the lines of our sheet w and theirs t, put together; b: what both come of -/
noncomputable def joinL (w t b : Sh) (ax : Int) : List Int := ci (ordP w b t ax) (jnL t w b ax) (jnL w t b ax)
theorem fst1_ex {f : Int → Int} {x : Int} : ∀ (m : Nat) (k j : Int), k ≤ j → j < k + m → f j = x → 0 ≤ k → 0 ≤ fst1 f x m k ∧ fst1 f x m k ≤ j
  | 0, _, _, h1, h2, _, _ => by omega
  | m + 1, k, j, h1, h2, h3, h4 => by
    rw [fst1]
    by_cases e : f k = x
    · rw [if_pos e]; exact ⟨h4, h1⟩
    · rw [if_neg e]
      have : k ≠ j := fun w => e (by rw [w]; exact h3)
      exact fst1_ex m (k + 1) j (by omega) (by omega) h3 (by omega)
theorem plc_ex {f : Int → Int} {x n j : Int} (h1 : 0 ≤ j) (h2 : j < n) (h3 : f j = x) : 0 ≤ plc f x n ∧ plc f x n ≤ j := fst1_ex n.toNat 0 j h1 (by omega) h3 (by omega)
theorem gI_mem {L : List Int} {i : Int} (h0 : 0 ≤ i) (h1 : i < (L.length : Int)) : gI L i ∈ L := by
  unfold gI
  rw [List.getD_eq_getElem?_getD, List.getElem?_eq_getElem (by omega)]
  exact List.getElem_mem _
theorem idxL_r (L : List Int) (x : Int) : idxL L x = -1 ∨ (0 ≤ idxL L x ∧ idxL L x < (L.length : Int) ∧ gI L (idxL L x) = x) := plc_r _ _ _
theorem idxL_mem {L : List Int} {x : Int} : 0 ≤ idxL L x ↔ x ∈ L := by
  constructor
  · intro h
    rcases idxL_r L x with e | ⟨h1, h2, h3⟩
    · omega
    · rw [← h3]; exact gI_mem h1 h2
  · intro h
    obtain ⟨i, hi, e⟩ := List.getElem_of_mem h
    refine (plc_ex (j := (i : Int)) (by omega) (by omega) ?_).1
    unfold gI
    rw [Int.toNat_natCast, List.getD_eq_getElem?_getD, List.getElem?_eq_getElem hi]; exact e
theorem insL_mem {L : List Int} {a id x : Int} : x ∈ insL L a id ↔ x = id ∨ x ∈ L := by
  unfold insL
  rw [List.mem_append, List.mem_cons]
  have e : x ∈ L ↔ x ∈ L.take a.toNat ∨ x ∈ L.drop a.toNat := by rw [← List.mem_append, List.take_append_drop]
  rw [e]
  constructor
  · rintro (h | h | h)
    · exact Or.inr (Or.inl h)
    · exact Or.inl h
    · exact Or.inr (Or.inr h)
  · rintro (h | h | h)
    · exact Or.inr (Or.inl h)
    · exact Or.inl h
    · exact Or.inr (Or.inr h)
theorem insL_n {L : List Int} {a id : Int} (h1 : a ≤ (L.length : Int)) : (insL L a id).length = L.length + 1 := by
  unfold insL
  rw [List.length_append, List.length_cons, List.length_take, List.length_drop]; omega
theorem insL_g {L : List Int} {a id i : Int} (a0 : 0 ≤ a) (a1 : a ≤ (L.length : Int)) (i0 : 0 ≤ i) : gI (insL L a id) i = if i < a then gI L i else if i = a then id else gI L (i - 1) := by
  unfold gI insL
  rw [List.getD_eq_getElem?_getD]
  by_cases e1 : i < a
  · rw [if_pos e1, List.getElem?_append_left (by rw [List.length_take]; omega), List.getElem?_take_of_lt (by omega), List.getD_eq_getElem?_getD]
  · rw [if_neg e1, List.getElem?_append_right (by rw [List.length_take]; omega), List.length_take, Nat.min_eq_left (by omega)]
    by_cases e2 : i = a
    · rw [if_pos e2, show i.toNat - a.toNat = 0 by omega]; rfl
    · rw [if_neg e2, show i.toNat - a.toNat = (i - 1 - a).toNat + 1 by omega, List.getElem?_cons_succ, List.getElem?_drop, List.getD_eq_getElem?_getD, show a.toNat + (i - 1 - a).toNat = (i - 1).toNat by omega]
theorem idxL_ins {L : List Int} {a id : Int} (a0 : 0 ≤ a) (a1 : a ≤ (L.length : Int)) (h : ¬ id ∈ L) : idxL (insL L a id) id = a := by
  have ga : gI (insL L a id) a = id := by rw [insL_g a0 a1 a0, if_neg (by omega), if_pos rfl]
  have hn := insL_n (id := id) a1
  have q := plc_ex (f := gI (insL L a id)) (x := id) (n := ((insL L a id).length : Int)) (j := a) a0 (by rw [hn]; omega) ga
  rcases idxL_r (insL L a id) id with e | ⟨h1, h2, h3⟩
  · unfold idxL at e; omega
  · have q2 : idxL (insL L a id) id ≤ a := q.2
    by_cases e : idxL (insL L a id) id = a
    · exact e
    · rw [insL_g a0 a1 h1, if_pos (by omega)] at h3
      exact absurd (h3 ▸ gI_mem h1 (by omega)) h
theorem insL_end (L : List Int) (id : Int) : insL L (L.length : Int) id = L ++ [id] := by
  unfold insL
  rw [Int.toNat_natCast, List.take_length, List.drop_length]
theorem jn1_n (p o b : Sh) (ax : Int) : ∀ (m : Nat) (k : Int), (jn1 p o b ax m k).length ≤ m
  | 0, _ => by rw [jn1]; exact Nat.le_refl _
  | m + 1, k => by
    have := jn1_n p o b ax m (k + 1)
    rw [jn1, List.length_append]
    by_cases e : stP p o b ax (idS p ax k)
    · rw [ci_1 e]; simp only [List.length_cons, List.length_nil]; omega
    · rw [ci_0 e]; simp only [List.length_nil]; omega
theorem jn1_mem {p o b : Sh} {ax x : Int} : ∀ (m : Nat) (k : Int), x ∈ jn1 p o b ax m k ↔ ∃ j, k ≤ j ∧ j < k + m ∧ idS p ax j = x ∧ stP p o b ax x
  | 0, k => by rw [jn1]; exact ⟨fun h => (by cases h), fun ⟨j, h1, h2, _⟩ => by omega⟩
  | m + 1, k => by
    rw [jn1, List.mem_append, jn1_mem m (k + 1)]
    constructor
    · rintro (h | ⟨j, h1, h2, h3⟩)
      · by_cases e : stP p o b ax (idS p ax k)
        · rw [ci_1 e] at h
          simp only [List.mem_singleton] at h
          exact ⟨k, by omega, by omega, h.symm, by rw [h]; exact e⟩
        · rw [ci_0 e] at h; cases h
      · exact ⟨j, by omega, by omega, h3⟩
    · rintro ⟨j, h1, h2, h3, h4⟩
      by_cases ej : j = k
      · subst ej
        rw [h3, ci_1 h4]; exact Or.inl (by simp)
      · exact Or.inr ⟨j, by omega, by omega, h3, h4⟩
theorem plS_in {s : Sh} {ax j : Int} (h0 : 0 ≤ j) (h1 : j < lnS s ax) : 0 ≤ plS s ax (idS s ax j) := (plc_ex h0 h1 rfl).1
theorem plS_ex {s : Sh} {ax id : Int} (h : 0 ≤ plS s ax id) : ∃ j, 0 ≤ j ∧ j < lnS s ax ∧ idS s ax j = id := by
  rcases plS_b s ax id with e | ⟨h1, h2, h3⟩
  · omega
  · exact ⟨_, h1, h2, h3⟩
/-- what is known between two lines of o -/
def Ahd (p o : Sh) (ax k : Int) (L : List Int) (a : Int) : Prop := (0 ≤ a ∧ a ≤ (L.length : Int)) ∧ (a = 0 ∧ (∀ j, 0 ≤ j → j < k → ¬ idS o ax j ∈ L) ∨ ∃ j, 0 ≤ j ∧ j < k ∧ idxL L (idS o ax j) = a - 1 ∧ 1 ≤ a ∧ ∀ i, j < i → i < k → ¬ idS o ax i ∈ L) ∧ ∀ j, k ≤ j → j < lnS o ax → (0 ≤ plS p ax (idS o ax j) ↔ idS o ax j ∈ L)
theorem Ahd_0 {p o b : Sh} {ax : Int} : Ahd p o ax 0 (jn1 p o b ax (lnS p ax).toNat 0) 0 := by
  refine ⟨⟨by omega, by omega⟩, Or.inl ⟨rfl, fun j j0 j1 => by omega⟩, fun j j0 j1 => ?_⟩
  rw [jn1_mem]
  constructor
  · intro h
    obtain ⟨i, i0, i1, i2⟩ := plS_ex h
    exact ⟨i, i0, by omega, i2, Or.inl (plS_in j0 j1)⟩
  · rintro ⟨i, i0, i1, i2, -⟩
    rw [← i2]; exact plS_in i0 (by omega)
theorem Ahd_p {p o : Sh} {ax k : Int} {L : List Int} {a : Int} (h : Ahd p o ax k L a) (k0 : 0 ≤ k) (k1 : k < lnS o ax) (hp : 0 ≤ plS p ax (idS o ax k)) : Ahd p o ax (k + 1) L (idxL L (idS o ax k) + 1) := by
  have hm := (h.2.2 k (by omega) k1).mp hp
  have hi := idxL_mem.mpr hm
  rcases idxL_r L (idS o ax k) with e | ⟨h1, h2, h3⟩
  · omega
  · exact ⟨⟨by omega, by omega⟩, Or.inr ⟨k, k0, by omega, by omega, by omega, fun i i0 i1 => by omega⟩, fun j j0 j1 => h.2.2 j (by omega) j1⟩
theorem Ahd_s {p o : Sh} {ax k : Int} {L : List Int} {a : Int} (h : Ahd p o ax k L a) (k1 : k < lnS o ax) (hp : ¬ 0 ≤ plS p ax (idS o ax k)) : Ahd p o ax (k + 1) L a := by
  have hm : ¬ idS o ax k ∈ L := fun w => hp ((h.2.2 k (by omega) k1).mpr w)
  refine ⟨h.1, ?_, fun j j0 j1 => h.2.2 j (by omega) j1⟩
  rcases h.2.1 with ⟨e, h1⟩ | ⟨j, j0, j1, j2, j3, j4⟩
  · refine Or.inl ⟨e, fun j j0 j1 => ?_⟩
    by_cases ej : j = k
    · rw [ej]; exact hm
    · exact h1 j j0 (by omega)
  · refine Or.inr ⟨j, j0, by omega, j2, j3, fun i i0 i1 => ?_⟩
    by_cases ei : i = k
    · rw [ei]; exact hm
    · exact j4 i i0 (by omega)
theorem Ahd_i {p o : Sh} {ax k : Int} {L : List Int} {a : Int} (ds : DsS o) (hax : ax = 0 ∨ ax = 1) (h : Ahd p o ax k L a) (k0 : 0 ≤ k) (k1 : k < lnS o ax) (hp : ¬ 0 ≤ plS p ax (idS o ax k)) : Ahd p o ax (k + 1) (insL L a (idS o ax k)) (a + 1) := by
  have hm : ¬ idS o ax k ∈ L := fun w => hp ((h.2.2 k (by omega) k1).mpr w)
  obtain ⟨⟨a0, a1⟩, h2, h3⟩ := h
  refine ⟨⟨by omega, by rw [insL_n a1]; omega⟩, Or.inr ⟨k, k0, by omega, by rw [idxL_ins a0 a1 hm]; omega, by omega, fun i i0 i1 => by omega⟩, fun j j0 j1 => ?_⟩
  rw [insL_mem, h3 j (by omega) j1]
  constructor
  · exact Or.inr
  · rintro (w | w)
    · have := ds ax hax j k (by omega) j1 k0 k1 w; omega
    · exact w
/-! the reference's -/
def wLn : WR := [(99, none), (0, some 100)]
def LnM (u : Mu) (L : List Int) : Prop := mI u 0 100 = (L.length : Int) ∧ ∀ i, 0 ≤ i → i < (L.length : Int) → mI u 99 i = gI L i
theorem i_lineOf {u : Mu} {L : List Int} {id : Int} {P : Int → Prop} (l : LnM u L) (hn : L.length ≤ 64) (h : P (idxL L id)) : F_X12_lineOf id u P := by
  obtain ⟨l1, l2⟩ := l
  unfold F_X12_lineOf F_X12_lineOf_2
  refine lp_I (fun k => 0 ≤ k ∧ k ≤ (L.length : Int) ∧ idxL L id = fst1 (gI L) id ((L.length : Int) - k).toNat k) (fun k => ((L.length : Int) - k).toNat) ?_ 0 ⟨by omega, by omega, by unfold idxL plc; congr 1⟩
  rintro G k ⟨k0, k1, hk2⟩ ih
  unfold L_X12_lineOf_2
  rw [l1]
  by_cases c : (L.length : Int) ≤ k
  · rw [if_pos c]
    rw [show ((L.length : Int) - k).toNat = 0 by omega, fst1] at hk2
    rw [hk2] at h; exact h
  · rw [if_neg c]
    rw [show ((L.length : Int) - k).toNat = ((L.length : Int) - (k + 1)).toNat + 1 by omega, fst1] at hk2
    refine ⟨k0, by omega, ?_⟩
    rw [l2 k k0 (by omega)]
    by_cases c2 : gI L k = id
    · rw [if_pos c2]; rw [if_pos c2] at hk2; rw [hk2] at h; exact h
    · rw [if_neg c2]; rw [if_neg c2] at hk2
      rw [w32e (by omega) (by omega)]
      exact ih (k + 1) ⟨by omega, by omega, hk2⟩ (by omega)
theorem i_putLine {u v : Mu} {L : List Int} {a id : Int} {P : Mu → Prop} (f : FrM wLn u v) (l : LnM v L) (a0 : 0 ≤ a) (a1 : a ≤ (L.length : Int)) (hn : L.length < 64) (h : ∀ w, FrM wLn u w → LnM w (insL L a id) → P w) : F_X12_putLine a id v P := by
  obtain ⟨l1, l2⟩ := l
  unfold F_X12_putLine F_X12_putLine_5
  rw [l1]
  refine lp_I (fun q => (a ≤ q.1 ∧ q.1 ≤ (L.length : Int)) ∧ FrM wLn u q.2 ∧ mI q.2 0 100 = (L.length : Int) ∧ (∀ i, 0 ≤ i → i < q.1 → mI q.2 99 i = gI L i) ∧ ∀ i, q.1 < i → i ≤ (L.length : Int) → mI q.2 99 i = gI L (i - 1)) (fun q => (q.1 - a).toNat) ?_ ((L.length : Int), v) ⟨⟨a1, Int.le_refl _⟩, f, l1, l2, fun i i0 i1 => by replace i0 : (L.length : Int) < i := i0; omega⟩
  rintro G ⟨k, w⟩ ⟨⟨k0, k1⟩, fw, w1, w2, w3⟩ ih
  simp only at k0 k1 fw w1 w2 w3
  unfold L_X12_putLine_5
  dsimp only
  by_cases e : k ≤ a
  · rw [if_pos e]
    have ek : k = a := by omega
    show 0 ≤ a ∧ a < 64 ∧ _
    refine ⟨a0, by omega, ?_⟩
    rintro _ rfl
    have e1 : mI (uI w 99 a id) 0 100 = (L.length : Int) := by rw [mI_uI, if_neg (by omega)]; exact w1
    rw [e1, w32e (by omega) (by omega)]
    rintro _ rfl
    refine h _ (FrM_uI (FrM_uI fw (wHas_a (by decide))) (wHas_i (by decide))) ⟨by rw [mI_uI, if_pos ⟨rfl, rfl⟩, insL_n a1]; omega, fun i i0 i1 => ?_⟩
    rw [insL_n a1] at i1
    rw [mI_uI, if_neg (by omega), mI_uI, insL_g a0 a1 i0]
    by_cases c1 : i < a
    · rw [if_pos c1, if_neg (by omega)]; exact w2 i i0 (by omega)
    · rw [if_neg c1]
      by_cases c2 : i = a
      · rw [if_pos c2, if_pos ⟨rfl, c2⟩]
      · rw [if_neg c2, if_neg (fun w => c2 w.2)]; exact w3 i (by omega) (by omega)
  · rw [if_neg e, w32e (x := k - 1) (by omega) (by omega), w32e (x := k + -1) (by omega) (by omega)]
    refine ⟨by omega, by omega, by omega, by omega, ?_⟩
    rintro _ rfl
    refine ih (k + -1, uI w 99 k (mI w 99 (k - 1))) ⟨⟨by show a ≤ k + -1; omega, by show k + -1 ≤ _; omega⟩, FrM_uI fw (wHas_a (by decide)), by show mI (uI w _ _ _) 0 100 = _; rw [mI_uI, if_neg (by omega)]; exact w1, fun i i0 i1 => ?_, fun i i0 i1 => ?_⟩ (by show (k + -1 - a).toNat < (k - a).toNat; omega)
    · replace i1 : i < k + -1 := i1
      show mI (uI w _ _ _) 99 i = _
      rw [mI_uI, if_neg (by omega)]; exact w2 i i0 (by omega)
    · replace i0 : k + -1 < i := i0
      show mI (uI w _ _ _) 99 i = _
      rw [mI_uI]
      by_cases c : i = k
      · rw [if_pos ⟨rfl, c⟩, c]; exact w2 (k - 1) (by omega) (by omega)
      · rw [if_neg (fun w => c w.2)]; exact w3 i (by omega) i1
theorem ShM_ln2 {u v : Mu} {s : Int} {h : Sh} (f : FrM wLn u v) (h0 : 0 ≤ mI u 0 19) (hb : ShB h) (m : ShM u s h) : ShM v s h := ShM_s hb (Grw_fr h0 f (by decide)) (SlM_fr f (by decide)) m
theorem CoB_ln {u v : Mu} (f : FrM wLn u v) (B : CoB u) : CoB v := by
  unfold CoB
  rw [mE f (R := rgC) (by decide) (k := 0) (i := 19) (wHas_i (by decide)), mE f (R := rgC) (by decide) (k := 0) (i := 24) (wHas_i (by decide)), mE f (R := rgC) (by decide) (k := 0) (i := 25) (wHas_i (by decide))]
  exact B
theorem i_jnL {u v : Mu} {x w y ax : Int} {p o b : Sh} {P : Mu → Prop} (B : CoB u) (hax : ax = 0 ∨ ax = 1) (bp : ShB p) (bo : ShB o) (bb : ShB b) (dp : DsS p) (d2 : DsS o) (mp : ShM u x p) (mo : ShM u w o) (mb : ShM u y b) (hx : 0 ≤ x ∧ x < 122) (hw : 0 ≤ w ∧ w < 122) (hy : 0 ≤ y ∧ y < 122) (f : FrM wLn u v) (h : ∀ t, FrM wLn u t → LnM t (jnL p o b ax) → (jnL p o b ax).length ≤ 64 → P t) : F_X12_comeTogether_35 y ax x w v P := by
  have lp1 := lnS_b bp ax
  have lo1 := lnS_b bo ax
  have m32 := mst_32 ax
  unfold F_X12_comeTogether_35
  rintro _ rfl
  have f0 : FrM wLn u (uI v 0 100 0) := FrM_uI f (wHas_i (by decide))
  have l0 : LnM (uI v 0 100 0) [] := ⟨by rw [mI_uI, if_pos ⟨rfl, rfl⟩]; rfl, fun i i0 i1 => absurd i1 (by show ¬ i < 0; omega)⟩
  generalize uI v 0 100 0 = v0 at f0 l0
  unfold F_X12_comeTogether_45
  refine lp_I (fun q => (0 ≤ q.1 ∧ q.1 ≤ lnS p ax) ∧ FrM wLn u q.2 ∧ ∃ E, LnM q.2 E ∧ E ++ jn1 p o b ax (lnS p ax - q.1).toNat q.1 = jn1 p o b ax (lnS p ax).toNat 0 ∧ (E.length : Int) ≤ q.1) (fun q => (lnS p ax - q.1).toNat) ?_ (0, v0) ⟨⟨by show (0 : Int) ≤ 0; decide, by show (0 : Int) ≤ _; omega⟩, f0, [], l0, by show [] ++ jn1 p o b ax (lnS p ax - 0).toNat 0 = _; rw [Int.sub_zero, List.nil_append], by show (0 : Int) ≤ 0; decide⟩
  rintro G ⟨k, t⟩ ⟨⟨k0, k1⟩, ft, E, lE, eE, nE⟩ ih
  simp only at k0 k1 ft lE eE nE
  unfold L_X12_comeTogether_45 F_X12_comeTogether_93
  dsimp only
  have mp' := ShM_ln2 ft B.1.1 bp mp
  have mo' := ShM_ln2 ft B.1.1 bo mo
  have mb' := ShM_ln2 ft B.1.1 bb mb
  refine i_linesOf hx.1 hx.2 ?_
  rw [ShM_ln mp' ax]
  by_cases ek : lnS p ax ≤ k
  · rw [if_pos ek]
    rw [show (lnS p ax - k).toNat = 0 by omega, jn1, List.append_nil] at eE
    clear ih
    show F_X12_comeTogether_102 y ax x w 0 t P
    unfold F_X12_comeTogether_102
    refine lp_I (fun q => (0 ≤ q.1 ∧ q.1 ≤ lnS o ax) ∧ FrM wLn u q.2 ∧ ∃ L a, LnM q.2 L ∧ jn2 p o b ax (lnS o ax - q.1).toNat q.1 L a = jnL p o b ax ∧ Ahd p o ax q.1 L a ∧ (L.length : Int) ≤ 32 + q.1) (fun q => (lnS o ax - q.1).toNat) ?_ (0, t) ⟨⟨by show (0 : Int) ≤ 0; decide, by show (0 : Int) ≤ _; omega⟩, ft, E, 0, lE, by show jn2 p o b ax (lnS o ax - 0).toNat 0 E 0 = _; rw [Int.sub_zero, eE]; rfl, by rw [eE]; exact Ahd_0, by show (E.length : Int) ≤ 32 + 0; omega⟩
    clear ft lE eE nE mp' mo' mb'
    rintro G ⟨k, t⟩ ⟨⟨k0, k1⟩, ft, L, a, lL, eL, hA, nL⟩ ih
    simp only at k0 k1 ft lL eL hA nL
    unfold L_X12_comeTogether_102 F_X12_comeTogether_215
    dsimp only
    have mp' := ShM_ln2 ft B.1.1 bp mp
    have mo' := ShM_ln2 ft B.1.1 bo mo
    have mb' := ShM_ln2 ft B.1.1 bb mb
    refine i_linesOf hw.1 hw.2 ?_
    rw [ShM_ln mo' ax]
    by_cases ek : lnS o ax ≤ k
    · rw [if_pos ek]
      rw [show (lnS o ax - k).toNat = 0 by omega, jn2] at eL
      exact h t ft (eL ▸ lL) (by rw [← eL]; omega)
    · rw [if_neg ek, w32e (x := k + 1) (by omega) (by omega)]
      rw [show (lnS o ax - k).toNat = (lnS o ax - (k + 1)).toNat + 1 by omega, jn2] at eL
      refine i_lineAt hw.1 hw.2 k0 (by omega) ?_
      rw [ShM_id mo' ax k k0 (by omega)]
      refine i_placeS bp mp' hx.1 hx.2 ?_
      by_cases e1 : 0 ≤ plS p ax (idS o ax k)
      · rw [if_pos e1]; rw [if_pos e1] at eL
        exact ih (k + 1, t) ⟨⟨by show 0 ≤ k + 1; omega, by show k + 1 ≤ _; omega⟩, ft, L, _, lL, eL, Ahd_p hA k0 (by omega) e1, by show (L.length : Int) ≤ 32 + (k + 1); omega⟩ (by show (_ - (k + 1)).toNat < (_ - k).toNat; omega)
      · rw [if_neg e1]; rw [if_neg e1] at eL
        refine i_isIn (CoB_ln ft B) hax bo bp bb d2 mo' mp' mb' hw hx hy (plS_in k0 (by omega)) ?_
        by_cases e2 : stP o p b ax (idS o ax k)
        · rw [cb_1 e2, if_neg (by decide)]; rw [ci_1 e2] at eL
          rw [w32e (x := k - 1) (by omega) (by omega)]
          have put : F_X12_putLine a (idS o ax k) t (fun u_212 => G (k + 1, u_212)) := i_putLine ft lL hA.1.1 hA.1.2 (by omega) (fun t' ft' lt' => ih (k + 1, t') ⟨⟨by show 0 ≤ k + 1; omega, by show k + 1 ≤ _; omega⟩, ft', _, _, lt', eL, Ahd_i d2 hax hA k0 (by omega) e1, by show ((insL L a _).length : Int) ≤ 32 + (k + 1); rw [insL_n hA.1.2]; omega⟩ (by show (_ - (k + 1)).toNat < (_ - k).toNat; omega))
          have k32 : k < 32 := by omega
          unfold F_X12_comeTogether_158
          refine lp_I (fun q => (-1 ≤ q ∧ q < k) ∧ ∀ i, q < i → i < k → ¬ idS o ax i ∈ L) (fun q => (q + 1).toNat) ?_ (k - 1) ⟨⟨by omega, by omega⟩, fun i i0 i1 => by omega⟩
          rintro G2 q ⟨⟨q0, q1⟩, qs⟩ ih2
          unfold L_X12_comeTogether_158
          have fin : (0 ≤ q → idS o ax q ∈ L) → F_X12_comeTogether_185 y ax x w k (idS o ax k) q t (fun o => match o with
              | .inl s' => G s'
              | .inr e => P e) := fun hq => by
            unfold F_X12_comeTogether_185 F_X12_comeTogether_210 F_X12_comeTogether_215
            rw [w32e (x := k + 1) (by omega) (by omega)]
            by_cases c0 : 0 ≤ q
            · rw [if_pos c0]
              refine i_lineAt hw.1 hw.2 c0 (by omega) ?_
              rw [ShM_id mo' ax q c0 (by omega)]
              refine i_lineOf lL (by omega) ?_
              have hm := hq c0
              have ea : idxL L (idS o ax q) + 1 = a := by
                rcases hA.2.1 with ⟨_, w2⟩ | ⟨j, j0, j1, j2, j3, j4⟩
                · exact absurd hm (w2 q c0 q1)
                · have ej : j = q := by
                    by_cases c1 : j < q
                    · exact absurd hm (j4 q c1 q1)
                    · by_cases c2 : q < j
                      · exact absurd (idxL_mem.mp (by omega)) (qs j c2 j1)
                      · omega
                  rw [← ej]; omega
              have := hA.1
              rw [ea, w32e (by omega) (by omega)]; exact put
            · rw [if_neg c0]
              have ea : (0 : Int) = a := by
                rcases hA.2.1 with ⟨w1, _⟩ | ⟨j, j0, j1, j2, j3, j4⟩
                · exact w1.symm
                · exact absurd (idxL_mem.mp (by omega)) (qs j (by omega) j1)
              rw [ea]; exact put
          by_cases c0 : q < 0
          · rw [if_pos c0]; exact fin (fun w => by omega)
          · rw [if_neg c0]
            refine i_lineAt hw.1 hw.2 (by omega) (by omega) ?_
            rw [ShM_id mo' ax q (by omega) (by omega)]
            refine i_lineOf lL (by omega) ?_
            by_cases c1 : 0 ≤ idxL L (idS o ax q)
            · rw [if_pos c1]; exact fin (fun _ => idxL_mem.mp c1)
            · rw [if_neg c1, w32e (by omega) (by omega)]
              refine ih2 (q + -1) ⟨⟨by omega, by omega⟩, fun i i0 i1 => ?_⟩ (by omega)
              by_cases ei : i = q
              · rw [ei]; exact fun w => c1 (idxL_mem.mpr w)
              · exact qs i (by omega) i1
        · rw [cb_0 e2, if_pos rfl]; rw [ci_0 e2] at eL
          exact ih (k + 1, t) ⟨⟨by show 0 ≤ k + 1; omega, by show k + 1 ≤ _; omega⟩, ft, L, a, lL, eL, Ahd_s hA (by omega) e1, by show (L.length : Int) ≤ 32 + (k + 1); omega⟩ (by show (_ - (k + 1)).toNat < (_ - k).toNat; omega)
  · rw [if_neg ek, w32e (x := k + 1) (by omega) (by omega)]
    rw [show (lnS p ax - k).toNat = (lnS p ax - (k + 1)).toNat + 1 by omega, jn1, ← List.append_assoc] at eE
    refine i_lineAt hx.1 hx.2 k0 (by omega) ?_
    rw [ShM_id mp' ax k k0 (by omega)]
    refine i_isIn (CoB_ln ft B) hax bp bo bb dp mp' mo' mb' hx hw hy (plS_in k0 (by omega)) ?_
    by_cases e2 : stP p o b ax (idS p ax k)
    · rw [cb_1 e2, if_neg (by decide)]; rw [ci_1 e2] at eE
      rw [lE.1]
      refine i_putLine ft lE (by omega) (by omega) (by omega) (fun t' ft' lt' => ?_)
      rw [insL_end] at lt'
      exact ih (k + 1, t') ⟨⟨by show 0 ≤ k + 1; omega, by show k + 1 ≤ _; omega⟩, ft', _, lt', eE, by show (((E ++ [_]).length : Nat) : Int) ≤ k + 1; rw [List.length_append]; simp only [List.length_cons, List.length_nil]; omega⟩ (by show (_ - (k + 1)).toNat < (_ - k).toNat; omega)
    · rw [cb_0 e2, if_pos rfl]; rw [ci_0 e2, List.append_nil] at eE
      exact ih (k + 1, t) ⟨⟨by show 0 ≤ k + 1; omega, by show k + 1 ≤ _; omega⟩, ft, E, lE, eE, by show (E.length : Int) ≤ k + 1; omega⟩ (by show (_ - (k + 1)).toNat < (_ - k).toNat; omega)
theorem i_together1 {u v : Mu} {t y ax : Int} {w s b : Sh} {P : Mu → Prop} (B : CoB u) (hax : ax = 0 ∨ ax = 1) (bw : ShB w) (bs : ShB s) (bb : ShB b) (dw : DsS w) (ds : DsS s) (mw : ShM u 40 w) (ms : ShM u t s) (mb : ShM u y b) (ht : 0 ≤ t ∧ t < 122) (hy : 0 ≤ y ∧ y < 122) (f : FrM wLn u v) (h : ∀ x, FrM wLn u x → LnM x (joinL w s b ax) → (joinL w s b ax).length ≤ 64 → P x) : F_X12_comeTogether t y ax v P := by
  unfold F_X12_comeTogether F_X12_comeTogether_22
  have h40 : (0 : Int) ≤ 40 ∧ (40 : Int) < 122 := by decide
  refine i_sameOrder bw bb bs (ShM_ln2 f B.1.1 bw mw) (ShM_ln2 f B.1.1 bb mb) (ShM_ln2 f B.1.1 bs ms) h40 hy ht ?_
  unfold joinL at h
  by_cases e : ordP w b s ax
  · rw [cb_1 e, if_neg (by decide), if_neg (by decide)]
    rw [ci_1 e] at h
    exact i_jnL B hax bs bw bb ds dw ms mw mb ht h40 hy f h
  · rw [cb_0 e, if_pos rfl, if_pos rfl]
    rw [ci_0 e] at h
    exact i_jnL B hax bw bs bb dw ds mw ms mb h40 ht hy f h
