/-! ===== the reference's registers ===== -/
def HdM (u : Mu) (d : Int) (l : Lit) : Prop := mI u 66 d = l.1 ∧ (l.1 = 2 → mI u 68 d = (l.2.2.length : Int) ∧ ∀ j : Nat, j < l.2.2.length → mI u 69 (24 * d + j) = l.2.2.getD j 0) ∧ (l.1 = 1 ∨ l.1 = 3 ∨ l.1 = 4 → mG u 67 d = l.2.1)
/-- the value of a cell -/
def CeM (u : Mu) (x : Int) (l : Lit) : Prop := mI u 60 x = l.1 ∧ (l.1 = 2 → mI u 62 x = (l.2.2.length : Int) ∧ ∀ j : Nat, j < l.2.2.length → mI u 63 (24 * x + j) = l.2.2.getD j 0) ∧ (l.1 = 1 ∨ l.1 = 3 ∨ l.1 = 4 → mG u 61 x = l.2.1)
def wEv : WR := [(66, none), (67, none), (68, none), (69, none), (70, none), (0, some 71), (0, some 72), (0, some 73), (0, some 74), (0, some 75), (0, some 76), (0, some 77), (0, some 78), (0, some 79), (0, some 80), (0, some 81)]
def wRg : WR := [(66, none), (67, none), (68, none), (69, none), (70, none)]
/-- only the registers D and the rest of L have changed -/
def FrQ (L : WR) (D : Int → Prop) (u v : Mu) : Prop := FrM L u v ∧ ∀ e, ¬ D e → mI v 66 e = mI u 66 e ∧ mG v 67 e = mG u 67 e ∧ mI v 68 e = mI u 68 e ∧ ∀ i, 24 * e ≤ i → i < 24 * e + 24 → mI v 69 i = mI u 69 i
abbrev FrS (D : Int → Prop) (u v : Mu) : Prop := FrQ wRg D u v
/-- the registers D and the scratch -/
abbrev FrT (D : Int → Prop) (u v : Mu) : Prop := FrQ wEv D u v
theorem FrM_up {L R : WR} {u v : Mu} (f : FrM L u v) (h : ∀ t ∈ L, t ∈ R) : FrM R u v := by
  refine ⟨fun k i n => f.1 k i (fun w => n ?_), fun k i n => f.2 k i (fun w => n ?_)⟩
  all_goals
    obtain ⟨t, ht, w⟩ := w
    exact ⟨t, h t ht, w⟩
section FrS
variable {L : WR} {D D' : Int → Prop} {u v w : Mu}
theorem FrT_of (f : FrS D u v) : FrT D u v := ⟨FrM_up f.1 (by decide), f.2⟩
theorem FrS_rf : FrQ L D u u := ⟨FrM_rf, fun _ _ => ⟨rfl, rfl, rfl, fun _ _ _ => rfl⟩⟩
theorem FrS_tr (f : FrQ L D u v) (g : FrQ L D v w) : FrQ L D u w := ⟨FrM_tr f.1 g.1, fun e he => ⟨(g.2 e he).1.trans (f.2 e he).1, (g.2 e he).2.1.trans (f.2 e he).2.1, (g.2 e he).2.2.1.trans (f.2 e he).2.2.1, fun i h0 h1 => ((g.2 e he).2.2.2 i h0 h1).trans ((f.2 e he).2.2.2 i h0 h1)⟩⟩
theorem FrS_mo (f : FrQ L D u v) (h : ∀ e, D e → D' e) : FrQ L D' u v := ⟨f.1, fun e he => f.2 e (fun w => he (h e w))⟩
theorem FrS_66 {d x : Int} (f : FrS D u v) (hd : D d) : FrS D u (uI v 66 d x) := by
  refine ⟨FrM_uI f.1 (wHas_a (by decide)), fun e he => ?_⟩
  have ne : e ≠ d := fun w => he (by rw [w]; exact hd)
  obtain ⟨h1, h2, h3, h4⟩ := f.2 e he
  exact ⟨by rw [mI_uI, if_neg (by omega)]; exact h1, h2, by rw [mI_uI, if_neg (by omega)]; exact h3, fun i a c => by rw [mI_uI, if_neg (by omega)]; exact h4 i a c⟩
theorem FrS_68 {d x : Int} (f : FrS D u v) (hd : D d) : FrS D u (uI v 68 d x) := by
  refine ⟨FrM_uI f.1 (wHas_a (by decide)), fun e he => ?_⟩
  have ne : e ≠ d := fun w => he (by rw [w]; exact hd)
  obtain ⟨h1, h2, h3, h4⟩ := f.2 e he
  exact ⟨by rw [mI_uI, if_neg (by omega)]; exact h1, h2, by rw [mI_uI, if_neg (by omega)]; exact h3, fun i a c => by rw [mI_uI, if_neg (by omega)]; exact h4 i a c⟩
theorem FrS_67 {d x : Int} (f : FrS D u v) (hd : D d) : FrS D u (uG v 67 d x) := by
  refine ⟨FrM_uG f.1 (wHas_a (by decide)), fun e he => ?_⟩
  have ne : e ≠ d := fun w => he (by rw [w]; exact hd)
  obtain ⟨h1, h2, h3, h4⟩ := f.2 e he
  exact ⟨h1, by rw [mG_uG, if_neg (by omega)]; exact h2, h3, h4⟩
theorem FrS_69 {d x i : Int} (f : FrS D u v) (hd : D d) (i0 : 24 * d ≤ i) (i1 : i < 24 * d + 24) : FrS D u (uI v 69 i x) := by
  refine ⟨FrM_uI f.1 (wHas_a (by decide)), fun e he => ?_⟩
  have ne : e ≠ d := fun w => he (by rw [w]; exact hd)
  obtain ⟨h1, h2, h3, h4⟩ := f.2 e he
  exact ⟨by rw [mI_uI, if_neg (by omega)]; exact h1, h2, by rw [mI_uI, if_neg (by omega)]; exact h3, fun j a c => by rw [mI_uI, if_neg (by omega)]; exact h4 j a c⟩
theorem FrT_0 {k x : Int} (f : FrT D u v) (hk : (0, some k) ∈ wEv) : FrT D u (uI v 0 k x) := by
  refine ⟨FrM_uI f.1 (wHas_i hk), fun e he => ?_⟩
  obtain ⟨h1, h2, h3, h4⟩ := f.2 e he
  exact ⟨by rw [mI_uI, if_neg (by omega)]; exact h1, h2, by rw [mI_uI, if_neg (by omega)]; exact h3, fun j a c => by rw [mI_uI, if_neg (by omega)]; exact h4 j a c⟩
theorem FrT_g0 {k x : Int} (f : FrT D u v) (hk : (0, some k) ∈ wEv) : FrT D u (uG v 0 k x) := by
  refine ⟨FrM_uG f.1 (wHas_i hk), fun e he => ?_⟩
  obtain ⟨h1, h2, h3, h4⟩ := f.2 e he
  exact ⟨h1, by rw [mG_uG, if_neg (by omega)]; exact h2, h3, h4⟩
theorem FrS_d (f : FrM [(70, none)] u v) : FrS D u v := by
  have q : ∀ k : Nat, k ≠ 70 → ∀ i, ¬ wHas [(70, none)] k i := by
    rintro k hk i ⟨t, ht, h1, -⟩
    rw [List.mem_singleton] at ht
    rw [ht] at h1; exact hk h1.symm
  refine ⟨⟨fun k i n => f.1 k i (fun w => ?_), fun k i n => f.2 k i (fun w => ?_)⟩, fun e _ => ⟨f.1 66 e (q _ (by decide) _), f.2 67 e (q _ (by decide) _), f.1 68 e (q _ (by decide) _), fun i _ _ => f.1 69 i (q _ (by decide) _)⟩⟩
  all_goals
    obtain ⟨t, ht, h1, h2⟩ := w
    rw [List.mem_singleton] at ht
    subst ht
    exact n ⟨(70, none), by decide, h1, h2⟩
theorem HdM_f {e : Int} {l : Lit} (f : FrQ L D u v) (he : ¬ D e) (h24 : l.1 = 2 → l.2.2.length ≤ 24) (h : HdM u e l) : HdM v e l := by
  obtain ⟨f1, f2, f3, f4⟩ := f.2 e he
  obtain ⟨h1, h2, h3⟩ := h
  refine ⟨f1.trans h1, fun c => ⟨f3.trans (h2 c).1, fun j hj => ?_⟩, fun c => f2.trans (h3 c)⟩
  have := h24 c
  rw [f4 _ (by omega) (by omega)]; exact (h2 c).2 j hj
theorem CeM_f {x : Int} {l : Lit} (f : FrM wEv u v) (h : CeM u x l) : CeM v x l := by
  obtain ⟨h1, h2, h3⟩ := h
  have hd : wDis wEv [(60, none), (61, none), (62, none), (63, none)] = true := by decide
  refine ⟨(mE f hd (wHas_a (by decide))).trans h1, fun c => ⟨(mE f hd (wHas_a (by decide))).trans (h2 c).1, fun j hj => (mE f hd (wHas_a (by decide))).trans ((h2 c).2 j hj)⟩, fun c => (gE f hd (wHas_a (by decide))).trans (h3 c)⟩
end FrS
theorem HdM_n {u : Mu} {d k x : Int} (h : mI u 66 d = k) (h2 : k ≠ 2) (h3 : mG u 67 d = x) : HdM u d (k, x, []) := ⟨h, fun c => absurd c h2, fun _ => h3⟩
/-! ===== what is laid in a register ===== -/
theorem e_number {u : Mu} {d x : Int} {P : Mu → Prop} (d0 : 0 ≤ d) (d1 : d < 200) (h : ∀ v, FrS (fun e => e = d) u v → HdM v d (nuL x) → P v) : F_X12_number d x u P := by
  have big : F_X12_number_21 d x 1 u P ↔ F_X12_number_21 d x 1 u P := Iff.rfl
  have k1 : (1000000000000000 < x ∨ x < -1000000000000000) → F_X12_number_21 d x 1 u P := by
    intro c
    unfold F_X12_number_21
    rw [if_neg (by decide)]
    unfold F_X12_number_38
    refine ⟨d0, d1, fun w hw => ?_⟩
    subst hw
    rw [if_neg (by decide)]
    unfold F_X12_number_56
    refine ⟨d0, d1, fun w hw => ?_⟩
    subst hw
    refine h _ (FrS_67 (FrS_66 FrS_rf rfl) rfl) ?_
    unfold nuL erL
    rw [if_pos c]
    exact HdM_n (by show mI (uI u 66 d 4) 66 d = 4; rw [mI_uI, if_pos ⟨rfl, rfl⟩]) (by decide) (by rw [mG_uG, if_pos ⟨rfl, rfl⟩])
  have k0 : ¬ (1000000000000000 < x ∨ x < -1000000000000000) → F_X12_number_21 d x 0 u P := by
    intro c
    unfold F_X12_number_21
    rw [if_pos rfl]
    unfold F_X12_number_38
    refine ⟨d0, d1, fun w hw => ?_⟩
    subst hw
    rw [if_pos rfl]
    unfold F_X12_number_56
    refine ⟨d0, d1, fun w hw => ?_⟩
    subst hw
    refine h _ (FrS_67 (FrS_66 FrS_rf rfl) rfl) ?_
    unfold nuL
    rw [if_neg c]
    exact HdM_n (by show mI (uI u 66 d 1) 66 d = 1; rw [mI_uI, if_pos ⟨rfl, rfl⟩]) (by decide) (by rw [mG_uG, if_pos ⟨rfl, rfl⟩])
  unfold F_X12_number
  by_cases c : 1000000000000000 < x
  · rw [if_pos c]; exact k1 (Or.inl c)
  · rw [if_neg c]
    by_cases c2 : -1000000000000000 ≤ x
    · rw [if_pos c2]; exact k0 (by omega)
    · rw [if_neg c2]; exact k1 (by omega)
theorem e_truth {u : Mu} {d x : Int} {t : Bool} {P : Mu → Prop} (d0 : 0 ≤ d) (d1 : d < 200) (ht : x = 0 ↔ t = false) (h : ∀ v, FrS (fun e => e = d) u v → HdM v d (trL t) → P v) : F_X12_truth d x u P := by
  unfold F_X12_truth
  refine ⟨d0, d1, fun w hw => ?_⟩
  subst hw
  by_cases c : x = 0
  · rw [if_pos c]
    unfold F_X12_truth_21
    refine ⟨d0, d1, fun w hw => ?_⟩
    subst hw
    refine h _ (FrS_67 (FrS_66 FrS_rf rfl) rfl) ?_
    rw [ht.mp c]
    exact HdM_n (by show mI (uI u 66 d 3) 66 d = 3; rw [mI_uI, if_pos ⟨rfl, rfl⟩]) (by decide) (by rw [mG_uG, if_pos ⟨rfl, rfl⟩]; rfl)
  · rw [if_neg c]
    unfold F_X12_truth_21
    refine ⟨d0, d1, fun w hw => ?_⟩
    subst hw
    refine h _ (FrS_67 (FrS_66 FrS_rf rfl) rfl) ?_
    have : t = true := by cases t; exact absurd (ht.mpr rfl) c; rfl
    rw [this]
    exact HdM_n (by show mI (uI u 66 d 3) 66 d = 3; rw [mI_uI, if_pos ⟨rfl, rfl⟩]) (by decide) (by rw [mG_uG, if_pos ⟨rfl, rfl⟩]; rfl)
theorem e_error {u : Mu} {d x : Int} {P : Mu → Prop} (d0 : 0 ≤ d) (d1 : d < 200) (h : ∀ v, FrS (fun e => e = d) u v → HdM v d (erL x) → P v) : F_X12_error d x u P := by
  unfold F_X12_error
  refine ⟨d0, d1, fun w hw => ?_⟩
  subst hw
  refine ⟨d0, d1, fun w hw => ?_⟩
  subst hw
  exact h _ (FrS_67 (FrS_66 FrS_rf rfl) rfl) (HdM_n (by show mI (uI u 66 d 4) 66 d = 4; rw [mI_uI, if_pos ⟨rfl, rfl⟩]) (by decide) (by rw [mG_uG, if_pos ⟨rfl, rfl⟩]))
theorem e_text {u : Mu} {d : Int} {k : Nat} {q n : Int} {bs : List Int} {P : Mu → Prop} (d0 : 0 ≤ d) (d1 : d < 200) (hk : mkl.getD k 0 = 14) (hk2 : k ≠ 66 ∧ k ≠ 68 ∧ k ≠ 69) (hn : n = (bs.length : Int)) (h24 : bs.length ≤ 24) (q0 : 0 ≤ q) (q1 : q + n ≤ ((mnl.getD k 0 : Nat) : Int)) (q2 : ((mnl.getD k 0 : Nat) : Int) ≤ 1000000) (hs : ∀ j : Nat, j < bs.length → mI u k (q + j) = bs.getD j 0) (h : ∀ v, FrS (fun e => e = d) u v → HdM v d (2, 0, bs) → P v) : F_X12_text d k q n u P := by
  unfold F_X12_text
  refine ⟨d0, d1, fun w hw => ?_⟩
  subst hw
  refine ⟨d0, d1, fun w hw => ?_⟩
  subst hw
  unfold F_X12_text_18
  refine lp_I (fun s => (0 ≤ s.1 ∧ s.1 ≤ n) ∧ FrS (fun e => e = d) u s.2 ∧ mI s.2 66 d = 2 ∧ mI s.2 68 d = n ∧ (∀ i, mI s.2 k i = mI u k i) ∧ ∀ j : Nat, (j : Int) < s.1 → mI s.2 69 (24 * d + j) = bs.getD j 0) (fun s => (n - s.1).toNat) ?_ _ ⟨⟨by show (0 : Int) ≤ 0; omega, by show (0 : Int) ≤ n; omega⟩, FrS_68 (D := fun e => e = d) (FrS_66 FrS_rf rfl) rfl, ?_, ?_, fun i => ?_, fun j hj => ?_⟩
  · rintro G ⟨x, w⟩ ⟨⟨x0, x1⟩, f, e1, e2, e3, e4⟩ ih
    simp only at x0 x1 f e1 e2 e3 e4
    unfold L_X12_text_18
    simp only
    by_cases c : n ≤ x
    · rw [if_pos c]
      refine h w f ⟨e1, fun _ => ⟨e2.trans hn, fun j hj => e4 j (by have hj : j < bs.length := hj; omega)⟩, fun c => ?_⟩
      rcases c with c | c | c <;> cases c
    · rw [if_neg c, w32e (x := q + x) (by omega) (by omega), w32e (x := 24 * d) (by omega) (by omega), w32e (x := 24 * d + x) (by omega) (by omega), w32e (x := x + 1) (by omega) (by omega)]
      refine ⟨hk, by omega, by omega, by omega, by omega, fun y hy => ?_⟩
      subst hy
      refine ih _ ⟨⟨by show 0 ≤ x + 1; omega, by show x + 1 ≤ n; omega⟩, FrS_69 f rfl (by omega) (by omega), ?_, ?_, fun i => ?_, fun j hj => ?_⟩ (by show (n - (x + 1)).toNat < (n - x).toNat; omega)
      · show mI (uI w 69 _ _) 66 d = 2; rw [mI_uI, if_neg (by omega)]; exact e1
      · show mI (uI w 69 _ _) 68 d = n; rw [mI_uI, if_neg (by omega)]; exact e2
      · show mI (uI w 69 _ _) k i = _; rw [mI_uI, if_neg (by omega)]; exact e3 i
      · have hj : (j : Int) < x + 1 := hj
        show mI (uI w 69 (24 * d + x) (mI w k (q + x))) 69 (24 * d + j) = _
        by_cases cj : (j : Int) = x
        · rw [mI_uI, if_pos ⟨rfl, by omega⟩, e3, ← cj]; exact hs j (by omega)
        · rw [mI_uI, if_neg (by omega)]; exact e4 j (by omega)
  · show mI (uI (uI u 66 d 2) 68 d n) 66 d = 2; rw [mI_uI, if_neg (by omega), mI_uI, if_pos ⟨rfl, rfl⟩]
  · show mI (uI (uI u 66 d 2) 68 d n) 68 d = n; rw [mI_uI, if_pos ⟨rfl, rfl⟩]
  · show mI (uI (uI u 66 d 2) 68 d n) k i = _; rw [mI_uI, if_neg (by omega), mI_uI, if_neg (by omega)]
  · exfalso; have : (j : Int) < 0 := hj; omega
theorem e_word {u : Mu} {d : Int} {i : Nat} {P : Mu → Prop} (d0 : 0 ≤ d) (d1 : d < 200) (hi : i < 44) (h24 : sLen i ≤ 24) (h : ∀ v, FrS (fun e => e = d) u v → HdM v d (2, 0, sL i) → P v) : F_X12_word d i u P := by
  have sl := sL_len i
  unfold F_X12_word
  refine ⟨d0, d1, fun w hw => ?_⟩
  subst hw
  refine ⟨hi, d0, d1, fun w hw => ?_⟩
  subst hw
  unfold F_X12_word_19
  refine lp_I (fun s => (0 ≤ s.1 ∧ s.1 ≤ sLen i) ∧ FrS (fun e => e = d) u s.2 ∧ mI s.2 66 d = 2 ∧ mI s.2 68 d = sLen i ∧ ∀ j : Nat, (j : Int) < s.1 → mI s.2 69 (24 * d + j) = (sL i).getD j 0) (fun s => (sLen i - s.1).toNat) ?_ _ ⟨⟨by show (0 : Int) ≤ 0; omega, by show (0 : Int) ≤ sLen i; omega⟩, FrS_68 (D := fun e => e = d) (FrS_66 FrS_rf rfl) rfl, ?_, ?_, fun j hj => ?_⟩
  · rintro G ⟨x, w⟩ ⟨⟨x0, x1⟩, f, e1, e2, e4⟩ ih
    simp only at x0 x1 f e1 e2 e4
    unfold L_X12_word_19
    simp only
    refine ⟨hi, ?_⟩
    by_cases c : sLen i ≤ x
    · rw [if_pos c]
      refine h w f ⟨e1, fun _ => ⟨e2.trans sl.symm, fun j hj => e4 j (by have hj : j < (sL i).length := hj; omega)⟩, fun c => ?_⟩
      rcases c with c | c | c <;> cases c
    · rw [if_neg c, w32e (x := 24 * d) (by omega) (by omega), w32e (x := 24 * d + x) (by omega) (by omega), w32e (x := x + 1) (by omega) (by omega)]
      refine ⟨hi, x0, by omega, by omega, by omega, fun y hy => ?_⟩
      subst hy
      refine ih _ ⟨⟨by show 0 ≤ x + 1; omega, by show x + 1 ≤ _; omega⟩, FrS_69 f rfl (by omega) (by omega), ?_, ?_, fun j hj => ?_⟩ (by show (sLen i - (x + 1)).toNat < (sLen i - x).toNat; omega)
      · show mI (uI w 69 _ _) 66 d = 2; rw [mI_uI, if_neg (by omega)]; exact e1
      · show mI (uI w 69 _ _) 68 d = _; rw [mI_uI, if_neg (by omega)]; exact e2
      · have hj : (j : Int) < x + 1 := hj
        show mI (uI w 69 (24 * d + x) (w8 (sCh i x))) 69 (24 * d + j) = _
        by_cases cj : (j : Int) = x
        · have hl : j < (sL i).length := by omega
          have hm := (sL_all i hi).1 _ (gD0_mem hl)
          rw [mI_uI, if_pos ⟨rfl, by omega⟩, ← cj, ← sL_at i hl, w8e (by omega) (by omega)]
        · rw [mI_uI, if_neg (by omega)]; exact e4 j (by omega)
  · show mI (uI (uI u 66 d 2) 68 d _) 66 d = 2; rw [mI_uI, if_neg (by omega), mI_uI, if_pos ⟨rfl, rfl⟩]
  · show mI (uI (uI u 66 d 2) 68 d _) 68 d = _; rw [mI_uI, if_pos ⟨rfl, rfl⟩]
  · exfalso; have : (j : Int) < 0 := hj; omega
theorem e_bring {u : Mu} {a d : Int} {l : Lit} {P : Mu → Prop} (a0 : 0 ≤ a) (a1 : a < 200) (d0 : 0 ≤ d) (d1 : d < 200) (hl : l.2.2.length ≤ 24) (ha : HdM u a l) (h : ∀ v, FrS (fun e => e = d) u v → HdM v d l → P v) : F_X12_bring a d u P := by
  by_cases had : a = d
  · subst had
    unfold F_X12_bring
    refine ⟨a0, a1, d0, d1, fun w hw => ?_⟩
    subst hw
    refine ⟨a0, a1, d0, d1, fun w hw => ?_⟩
    subst hw
    refine ⟨a0, a1, d0, d1, fun w hw => ?_⟩
    subst hw
    unfold F_X12_bring_38
    refine lp_I (fun s => (0 ≤ s.1 ∧ s.1 ≤ 24) ∧ FrS (fun e => e = a) u s.2 ∧ mI s.2 66 a = mI u 66 a ∧ mG s.2 67 a = mG u 67 a ∧ mI s.2 68 a = mI u 68 a ∧ ∀ i, mI s.2 69 i = mI u 69 i) (fun s => (24 - s.1).toNat) ?_ _ ⟨⟨by show (0 : Int) ≤ 0; omega, by show (0 : Int) ≤ 24; omega⟩, FrS_68 (D := fun e => e = a) (FrS_67 (FrS_66 FrS_rf rfl) rfl) rfl, ?_, ?_, ?_, fun i => ?_⟩
    · rintro G ⟨x, w⟩ ⟨⟨x0, x1⟩, f, e1, e2, e3, e4⟩ ih
      simp only at x0 x1 f e1 e2 e3 e4
      unfold L_X12_bring_38
      simp only
      by_cases c : 24 ≤ x
      · rw [if_pos c]
        obtain ⟨g1, g2, g3⟩ := ha
        exact h w f ⟨e1.trans g1, fun c => ⟨e3.trans (g2 c).1, fun j hj => (e4 _).trans ((g2 c).2 j hj)⟩, fun c => e2.trans (g3 c)⟩
      · rw [if_neg c, w32e (x := 24 * a) (by omega) (by omega), w32e (x := 24 * a + x) (by omega) (by omega), w32e (x := x + 1) (by omega) (by omega)]
        refine ⟨by omega, by omega, by omega, by omega, fun y hy => ?_⟩
        subst hy
        refine ih _ ⟨⟨by show 0 ≤ x + 1; omega, by show x + 1 ≤ 24; omega⟩, FrS_69 f rfl (by omega) (by omega), ?_, ?_, ?_, fun i => ?_⟩ (by show (24 - (x + 1)).toNat < (24 - x).toNat; omega)
        · show mI (uI w 69 _ _) 66 a = _; rw [mI_uI, if_neg (by omega)]; exact e1
        · exact e2
        · show mI (uI w 69 _ _) 68 a = _; rw [mI_uI, if_neg (by omega)]; exact e3
        · show mI (uI w 69 _ _) 69 i = _
          rw [mI_uI]
          split
          · next c2 => rw [e4, c2.2]
          · exact e4 i
    · show mI (uI (uG (uI u 66 a (mI u 66 a)) 67 a _) 68 a _) 66 a = _; rw [mI_uI, if_neg (by omega), mI_uG, mI_uI, if_pos ⟨rfl, rfl⟩]
    · show mG (uI (uG (uI u 66 a (mI u 66 a)) 67 a _) 68 a _) 67 a = _; rw [mG_uI, mG_uG, if_pos ⟨rfl, rfl⟩, mG_uI]
    · show mI (uI (uG (uI u 66 a (mI u 66 a)) 67 a _) 68 a _) 68 a = _; rw [mI_uI, if_pos ⟨rfl, rfl⟩, mI_uG, mI_uI, if_neg (by omega)]
    · show mI (uI (uG (uI u 66 a (mI u 66 a)) 67 a _) 68 a _) 69 i = _; rw [mI_uI, if_neg (by omega), mI_uG, mI_uI, if_neg (by omega)]
  · unfold F_X12_bring
    refine ⟨a0, a1, d0, d1, fun w hw => ?_⟩
    subst hw
    refine ⟨a0, a1, d0, d1, fun w hw => ?_⟩
    subst hw
    refine ⟨a0, a1, d0, d1, fun w hw => ?_⟩
    subst hw
    unfold F_X12_bring_38
    refine lp_I (fun s => (0 ≤ s.1 ∧ s.1 ≤ 24) ∧ FrS (fun e => e = d) u s.2 ∧ mI s.2 66 d = mI u 66 a ∧ mG s.2 67 d = mG u 67 a ∧ mI s.2 68 d = mI u 68 a ∧ ∀ i : Nat, (i : Int) < s.1 → mI s.2 69 (24 * d + i) = mI u 69 (24 * a + i)) (fun s => (24 - s.1).toNat) ?_ _ ⟨⟨by show (0 : Int) ≤ 0; omega, by show (0 : Int) ≤ 24; omega⟩, FrS_68 (D := fun e => e = d) (FrS_67 (FrS_66 FrS_rf rfl) rfl) rfl, ?_, ?_, ?_, fun i hi => ?_⟩
    · rintro G ⟨x, w⟩ ⟨⟨x0, x1⟩, f, e1, e2, e3, e4⟩ ih
      simp only at x0 x1 f e1 e2 e3 e4
      unfold L_X12_bring_38
      simp only
      by_cases c : 24 ≤ x
      · rw [if_pos c]
        obtain ⟨g1, g2, g3⟩ := ha
        exact h w f ⟨e1.trans g1, fun c => ⟨e3.trans (g2 c).1, fun j hj => (e4 j (by omega)).trans ((g2 c).2 j hj)⟩, fun c => e2.trans (g3 c)⟩
      · rw [if_neg c, w32e (x := 24 * a) (by omega) (by omega), w32e (x := 24 * a + x) (by omega) (by omega), w32e (x := 24 * d) (by omega) (by omega), w32e (x := 24 * d + x) (by omega) (by omega), w32e (x := x + 1) (by omega) (by omega)]
        refine ⟨by omega, by omega, by omega, by omega, fun y hy => ?_⟩
        subst hy
        refine ih _ ⟨⟨by show 0 ≤ x + 1; omega, by show x + 1 ≤ 24; omega⟩, FrS_69 f rfl (by omega) (by omega), ?_, ?_, ?_, fun i hi => ?_⟩ (by show (24 - (x + 1)).toNat < (24 - x).toNat; omega)
        · show mI (uI w 69 _ _) 66 d = _; rw [mI_uI, if_neg (by omega)]; exact e1
        · exact e2
        · show mI (uI w 69 _ _) 68 d = _; rw [mI_uI, if_neg (by omega)]; exact e3
        · have hi : (i : Int) < x + 1 := hi
          show mI (uI w 69 (24 * d + x) (mI w 69 (24 * a + x))) 69 (24 * d + i) = _
          by_cases ci : (i : Int) = x
          · rw [mI_uI, if_pos ⟨rfl, by omega⟩, (f.2 a had).2.2.2 _ (by omega) (by omega), ci]
          · rw [mI_uI, if_neg (by omega)]; exact e4 i (by omega)
    · show mI (uI (uG (uI u 66 d (mI u 66 a)) 67 d _) 68 d _) 66 d = _; rw [mI_uI, if_neg (by omega), mI_uG, mI_uI, if_pos ⟨rfl, rfl⟩]
    · show mG (uI (uG (uI u 66 d (mI u 66 a)) 67 d _) 68 d _) 67 d = _; rw [mG_uI, mG_uG, if_pos ⟨rfl, rfl⟩, mG_uI]
    · show mI (uI (uG (uI u 66 d (mI u 66 a)) 67 d _) 68 d _) 68 d = _; rw [mI_uI, if_pos ⟨rfl, rfl⟩, mI_uG, mI_uI, if_neg (by omega)]
    · exfalso; have : (i : Int) < 0 := hi; omega
