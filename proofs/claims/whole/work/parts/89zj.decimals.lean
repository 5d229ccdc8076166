/-! ===== decimals, words ===== -/
theorem gA_l {l r : List Int} {i : Nat} (h : i < l.length) : (l ++ r).getD i 0 = l.getD i 0 := by
  rw [List.getD_eq_getElem?_getD, List.getD_eq_getElem?_getD, List.getElem?_append_left h]
theorem gA_r {l r : List Int} {i : Nat} (h : l.length ≤ i) : (l ++ r).getD i 0 = r.getD (i - l.length) 0 := by
  rw [List.getD_eq_getElem?_getD, List.getD_eq_getElem?_getD, List.getElem?_append_right h]
def dg : Nat → Int → List Int
  | 0, _ => []
  | n + 1, x => dg n (x / 10) ++ [48 + x % 10]
theorem dg_len : ∀ (n : Nat) (x : Int), (dg n x).length = n
  | 0, _ => rfl
  | n + 1, x => by rw [dg, List.length_append, dg_len n]; rfl
theorem dg_mem : ∀ (n : Nat) (x : Int), ∀ y ∈ dg n x, 48 ≤ y ∧ y ≤ 57
  | 0, _ => fun y h => by cases h
  | n + 1, x => fun y h => by
    rw [dg, List.mem_append] at h
    rcases h with h | h
    · exact dg_mem n _ y h
    · rw [List.mem_singleton] at h; omega
def nDf : Nat → Int → Nat
  | 0, _ => 0
  | f + 1, x => if x ≤ 0 then 0 else nDf f (x / 10) + 1
theorem nDf_le : ∀ (f k : Nat) (x : Int), x < 10 ^ k → nDf f x ≤ k
  | 0, _, _, _ => by rw [nDf]; omega
  | f + 1, k, x, h => by
    rw [nDf]
    split
    · omega
    · next c =>
      cases k with
      | zero => exfalso; rw [Int.pow_zero] at h; omega
      | succ k =>
        rw [Int.pow_succ] at h
        have := nDf_le f k (x / 10) (by omega)
        omega
theorem nDf_0 (f : Nat) {x : Int} (h : x ≤ 0) : nDf f x = 0 := by
  cases f with
  | zero => rfl
  | succ f => rw [nDf, if_pos h]
theorem nDf_s {f : Nat} {x : Int} (h : ¬ x ≤ 0) (hx : x < 10 ^ f) : ∃ g, x / 10 < 10 ^ g ∧ nDf f x = nDf g (x / 10) + 1 := by
  cases f with
  | zero => exfalso; rw [Int.pow_zero] at hx; omega
  | succ f =>
    rw [Int.pow_succ] at hx
    exact ⟨f, by omega, by rw [nDf, if_neg h]⟩
def nD (x : Int) : Nat := if x ≤ 0 then 1 else nDf 20 x
def dec (x : Int) : List Int := if 0 ≤ x then dg (nD x) x else 45 :: dg (nD (-x)) (-x)
theorem nD_b {x : Int} (h1 : x ≤ 1000000000000000) : 1 ≤ nD x ∧ nD x ≤ 16 := by
  unfold nD
  split
  · omega
  · next c =>
    refine ⟨?_, nDf_le 20 16 x (by have : (10 : Int) ^ 16 = 10000000000000000 := by decide
                                   omega)⟩
    rw [nDf, if_neg c]; omega
theorem dec_len {x : Int} (h0 : -1000000000000000 ≤ x) (h1 : x ≤ 1000000000000000) : 1 ≤ (dec x).length ∧ (dec x).length ≤ 17 := by
  unfold dec
  split
  · rw [dg_len]; have := nD_b h1; omega
  · rw [List.length_cons, dg_len]; have := nD_b (x := -x) (by omega); omega
theorem dec_mem (x : Int) : ∀ y ∈ dec x, 45 ≤ y ∧ y ≤ 57 := by
  intro y h
  unfold dec at h
  split at h
  · have := dg_mem _ _ y h; omega
  · rcases List.mem_cons.mp h with rfl | h
    · omega
    · have := dg_mem _ _ y h; omega
theorem dec_2 {x : Int} (h0 : 0 ≤ x) (h1 : x < 100) : dec x = (if x < 10 then [] else [48 + x / 10]) ++ [48 + x % 10] := by
  unfold dec nD
  rw [if_pos h0]
  by_cases c : x ≤ 0
  · rw [if_pos c, if_pos (by omega), dg, dg]
  · rw [if_neg c, nDf, if_neg c]
    by_cases c2 : x < 10
    · rw [if_pos c2, nDf_0 _ (by omega), dg, dg]
    · rw [if_neg c2, nDf, if_neg (by omega), nDf_0 _ (by omega), dg, dg, dg, List.nil_append, show x / 10 % 10 = x / 10 by omega]
/-- the words -/
def sL (i : Nat) : List Int := (strL i).map Int32.toInt
theorem sL_len (i : Nat) : ((sL i).length : Int) = sLen i := by unfold sL sLen; rw [List.length_map]
theorem sL_at (i : Nat) {k : Nat} (h : k < (sL i).length) : (sL i).getD k 0 = sCh i k := by
  unfold sL at h ⊢
  rw [List.length_map] at h
  unfold sCh
  rw [Int.toNat_natCast, List.getD_eq_getElem?_getD, List.getElem?_map, List.getElem?_eq_getElem h, List.getD_eq_getElem?_getD, List.getElem?_eq_getElem h]; rfl
theorem sL_all : ∀ i : Nat, i < 44 → (∀ x ∈ sL i, 0 ≤ x ∧ x ≤ 127) ∧ (sL i).length ≤ 144 := by decide +kernel
/-! ===== a Value object ===== -/
def VlB (z : Z) (a ba : Nat) : Prop := zK z a = 9 ∧ zO z a 0 = some ba ∧ zK z ba = 14 ∧ zN z ba = 24
def VlT (z : Z) (a ba : Nat) (l : Lit) : Prop := if l.1 = 2 then zG z a 2 = (l.2.2.length : Int) ∧ (l.2.2.length : Int) ≤ zN z ba ∧ l.2.1 = 0 ∧ ∀ i : Nat, i < l.2.2.length → zI z ba i = l.2.2.getD i 0 else zG z a 2 = l.2.1 ∧ l.2.2 = []
def VlS (z : Z) (a ba : Nat) (l : Lit) : Prop := (zK z a = 9 ∧ zI z a 1 = l.1 ∧ zO z a 0 = some ba ∧ zK z ba = 14) ∧ VlT z a ba l
theorem LitC_V {z : Z} {I : Nat → Prop} {a : Nat} {l : Lit} (h : LitC z I a l) : I a ∧ ∃ ba, I ba ∧ VlS z a ba l := by
  obtain ⟨h1, h2, h3, ba, h4, h5, h6, h7⟩ := h
  exact ⟨h1, ba, h5, ⟨h2, h3, h4, h6⟩, h7⟩
/-- the writes at a Value -/
def VW (a ba : Nat) (x : Nat) (i : Int) : Prop := (x = a ∧ (i = 1 ∨ i = 2 ∨ i = 3)) ∨ x = ba
theorem VlB_ne {z : Z} {a ba : Nat} (h : VlB z a ba) : a ≠ ba := fun e => by have h1 := h.1; rw [e, h.2.2.1] at h1; cases h1
theorem VlB_fr {z y : Z} {a ba : Nat} (h : VlB z a ba) (f : FrZ (VW a ba) z y) : VlB y a ba := by
  have ne := VlB_ne h
  obtain ⟨h1, h2, h3, h4⟩ := h
  have ka : zK z a ≠ 0 := by rw [h1]; decide
  have kb : zK z ba ≠ 0 := by rw [h3]; decide
  refine ⟨(f.1 a ka).1.trans h1, (f.2 a 0 ka ?_).2.2.trans h2, (f.1 ba kb).1.trans h3, (f.1 ba kb).2.trans h4⟩
  rintro (⟨-, h⟩ | h)
  · omega
  · exact ne h
theorem VlS_B {z : Z} {a ba : Nat} {l : Lit} (h : VlS z a ba l) (n : zN z ba = 24) : VlB z a ba := ⟨h.1.1, h.1.2.2.1, h.1.2.2.2, n⟩
theorem VlS_fr {W : Nat → Int → Prop} {z y : Z} {a ba : Nat} {l : Lit} (h : VlS z a ba l) (f : FrZ W z y) (n1 : ¬ W a 0) (n2 : ¬ W a 1) (n3 : ¬ W a 2) (n4 : ∀ i, ¬ W ba i) : VlS y a ba l := by
  obtain ⟨⟨h1, h2, h3, h4⟩, h5⟩ := h
  have ka : zK z a ≠ 0 := by rw [h1]; decide
  have kb : zK z ba ≠ 0 := by rw [h4]; decide
  refine ⟨⟨(f.1 a ka).1.trans h1, (f.2 a 1 ka n2).1.trans h2, (f.2 a 0 ka n1).2.2.trans h3, (f.1 ba kb).1.trans h4⟩, ?_⟩
  unfold VlT at h5 ⊢
  split
  · next c =>
    rw [if_pos c] at h5
    obtain ⟨g1, g2, g3, g4⟩ := h5
    exact ⟨(f.2 a 2 ka n3).2.1.trans g1, by rw [(f.1 ba kb).2]; exact g2, g3, fun i hi => (f.2 ba i kb (n4 i)).1.trans (g4 i hi)⟩
  · next c =>
    rw [if_neg c] at h5
    exact ⟨(f.2 a 2 ka n3).2.1.trans h5.1, h5.2⟩
theorem k_set {z : Z} {a ba : Nat} {k x : Int} {P : Z → Prop} (B : VlB z a ba) (hk : k ≠ 2) (h : ∀ y, VlS y a ba (k, x, []) → zI y a 3 = 0 → FrZ (VW a ba) z y → P y) : F_X8_set a k x z P := by
  obtain ⟨h1, h2, h3, h4⟩ := B
  unfold F_X8_set
  refine ⟨h1, fun z2 e2 => ?_⟩
  subst e2
  intro z7 e7
  subst e7
  intro z12 e12
  subst e12
  refine h _ ⟨⟨h1, ?_, h2, h3⟩, ?_⟩ ?_ (FrZ_wI (FrZ_wG (FrZ_wI FrZ_rf (Or.inl (Or.inl ⟨rfl, Or.inl rfl⟩))) (Or.inl (Or.inl ⟨rfl, Or.inr (Or.inl rfl)⟩))) (Or.inl (Or.inl ⟨rfl, Or.inr (Or.inr rfl)⟩)))
  · rw [zI_wI, if_neg (by omega), zI_wG, zI_wI, if_pos ⟨rfl, rfl⟩]
  · unfold VlT
    rw [if_neg hk]
    exact ⟨by rw [zG_wI, zG_wG, if_pos ⟨rfl, rfl⟩], rfl⟩
  · rw [zI_wI, if_pos ⟨rfl, rfl⟩]
/-- the bytes are laid, then TEXT is set -/
theorem k_set2 {z : Z} {a ba : Nat} {bs : List Int} {n : Int} {P : Z → Prop} (B : VlB z a ba) (hn : n = (bs.length : Int)) (h24 : bs.length ≤ 24) (hb : ∀ i : Nat, i < bs.length → zI z ba i = bs.getD i 0) (h : ∀ y, VlS y a ba (2, 0, bs) → zI y a 3 = 0 → FrZ (VW a ba) z y → P y) : F_X8_set a 2 n z P := by
  have ne := VlB_ne B
  obtain ⟨h1, h2, h3, h4⟩ := B
  unfold F_X8_set
  refine ⟨h1, fun z2 e2 => ?_⟩
  subst e2
  intro z7 e7
  subst e7
  intro z12 e12
  subst e12
  refine h _ ⟨⟨h1, ?_, h2, h3⟩, ?_⟩ ?_ (FrZ_wI (FrZ_wG (FrZ_wI FrZ_rf (Or.inl (Or.inl ⟨rfl, Or.inl rfl⟩))) (Or.inl (Or.inl ⟨rfl, Or.inr (Or.inl rfl)⟩))) (Or.inl (Or.inl ⟨rfl, Or.inr (Or.inr rfl)⟩)))
  · rw [zI_wI, if_neg (by omega), zI_wG, zI_wI, if_pos ⟨rfl, rfl⟩]
  · unfold VlT
    rw [if_pos rfl]
    refine ⟨by rw [zG_wI, zG_wG, if_pos ⟨rfl, rfl⟩]; exact hn, by show (bs.length : Int) ≤ zN z ba; rw [h4]; omega, rfl, fun i hi => ?_⟩
    rw [zI_wI, if_neg (fun w => ne w.1.symm), zI_wG, zI_wI, if_neg (fun w => ne w.1.symm)]
    exact hb i hi
  · rw [zI_wI, if_pos ⟨rfl, rfl⟩]
