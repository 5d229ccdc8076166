/-! ===== the reference: spots and areas ===== -/
theorem E_op {u : Mu} {s : Int} {E : Int → Sh} {V : Int → Int → Int → Lit} {q0 : Int} {ps : List Prt} (h : EvM u s E V q0 ps) {j : Nat} (hj : j < ps.length) : PrtM u (q0 + j) (ps.getD j pd0) (ps.getD (j + 1) pd0).1 ∧ mI u 28 (q0 + j) = (spnL ps).getD j 0 ∧ 0 ≤ q0 + j ∧ q0 + j < 60420 := by
  obtain ⟨-, ⟨⟨h1, h2, h3⟩, h4⟩, -⟩ := h
  obtain ⟨g1, g2⟩ := h4 j hj
  exact ⟨g1, g2, by omega, by omega⟩
/-- as EvM, but nothing is said of values -/
def EvN (u : Mu) (s : Int) (E : Int → Sh) (q0 : Int) (ps : List Prt) : Prop := FmM u q0 ps ∧ (0 ≤ s ∧ s ≤ 40) ∧ ∀ j : Nat, j < ps.length → ((ps.getD j pd0).1 = 16 ∨ (ps.getD j pd0).1 = 17) → ShM u (slV s (ps.getD j pd0).2.2.2.2.2) (E (ps.getD j pd0).2.2.2.2.2) ∧ ShB (E (ps.getD j pd0).2.2.2.2.2) ∧ 0 ≤ slV s (ps.getD j pd0).2.2.2.2.2 ∧ slV s (ps.getD j pd0).2.2.2.2.2 ≤ 40
theorem EvN_of {u : Mu} {s : Int} {E : Int → Sh} {V : Int → Int → Int → Lit} {q0 : Int} {ps : List Prt} (h : EvM u s E V q0 ps) : EvN u s E q0 ps := ⟨h.2.1, h.2.2.1.1, fun j hj c => (h.2.2.1.2 j hj c).1⟩
theorem E_opN {u : Mu} {s : Int} {E : Int → Sh} {q0 : Int} {ps : List Prt} (h : EvN u s E q0 ps) {j : Nat} (hj : j < ps.length) : PrtM u (q0 + j) (ps.getD j pd0) (ps.getD (j + 1) pd0).1 ∧ mI u 28 (q0 + j) = (spnL ps).getD j 0 ∧ 0 ≤ q0 + j ∧ q0 + j < 60420 := by
  obtain ⟨⟨⟨h1, h2, h3⟩, h4⟩, -⟩ := h
  obtain ⟨g1, g2⟩ := h4 j hj
  exact ⟨g1, g2, by omega, by omega⟩
theorem e_sheetOf {u : Mu} {q s v : Int} {P : Int → Prop} (q0 : 0 ≤ q) (q1 : q < 60420) (e : mI u 37 q = v) (h : P (slV s v)) : F_X12_sheetOf q s u P := by
  unfold slV at h
  unfold F_X12_sheetOf F_X12_sheetOf_19
  refine ⟨q0, q1, ?_⟩
  rw [e]
  split
  · next c => rw [if_pos c] at h; exact h
  · next c => rw [if_neg c] at h; exact h
theorem e_spotN {u : Mu} {s : Int} {E : Int → Sh} {q0 : Int} {ps : List Prt} {j : Nat} {P : Int → Prop} (h : EvN u s E q0 ps) (hj : j < ps.length) (c : (ps.getD j pd0).1 = 16) (hn : spP (E (ps.getD j pd0).2.2.2.2.2) (ps.getD j pd0) = none → P (-1)) (hy : ∀ r k, spP (E (ps.getD j pd0).2.2.2.2.2) (ps.getD j pd0) = some (r, k) → P (320 * slV s (ps.getD j pd0).2.2.2.2.2 + 10 * r + k)) : F_X12_spotCell (q0 + j) s u P := by
  obtain ⟨g1, g2, g3, g4⟩ := E_opN h hj
  obtain ⟨m1, m2, m3, m4⟩ := h.2.2 j hj (Or.inl c)
  obtain ⟨-, -, -, p32, p33, -, -, -, p37, -⟩ := g1
  unfold F_X12_spotCell
  refine e_sheetOf g3 g4 p37 ⟨g3, g4, i_placeS m2 m1 m3 (by omega) ⟨g3, g4, i_placeS m2 m1 m3 (by omega) ?_⟩⟩
  rw [p32, p33]
  unfold F_X12_spotCell_45 F_X12_spotCell_63
  unfold spP at hn hy
  by_cases c1 : plS (E (ps.getD j pd0).2.2.2.2.2) 0 ((ps.getD j pd0).2.2.2.1.1 - 1) < 0
  · rw [if_pos c1]; rw [if_pos (Or.inl c1)] at hn; exact hn rfl
  · rw [if_neg c1]
    by_cases c2 : 0 ≤ plS (E (ps.getD j pd0).2.2.2.2.2) 1 ((ps.getD j pd0).2.2.2.1.2.1 - 1)
    · rw [if_pos c2]
      rw [if_neg (by omega)] at hy
      have a1 := (plS_r (s := E (ps.getD j pd0).2.2.2.2.2) (id := (ps.getD j pd0).2.2.2.1.1 - 1) (by omega)).1
      have a2 := (plS_c (s := E (ps.getD j pd0).2.2.2.2.2) (id := (ps.getD j pd0).2.2.2.1.2.1 - 1) (by omega)).1
      obtain ⟨⟨b1, b2⟩, b3, b4⟩ := m2
      have := hy _ _ rfl
      rw [w32e (x := 320 * _) (by omega) (by omega), w32e (x := 10 * _) (by omega) (by omega), w32e (x := 320 * _ + _) (by omega) (by omega), w32e (by omega) (by omega)]
      exact this
    · rw [if_neg c2]; rw [if_pos (by omega)] at hn; exact hn rfl
theorem e_spot {u : Mu} {s : Int} {E : Int → Sh} {V : Int → Int → Int → Lit} {q0 : Int} {ps : List Prt} {j : Nat} {P : Int → Prop} (h : EvM u s E V q0 ps) (hj : j < ps.length) (c : (ps.getD j pd0).1 = 16) (hn : spP (E (ps.getD j pd0).2.2.2.2.2) (ps.getD j pd0) = none → P (-1)) (hy : ∀ r k, spP (E (ps.getD j pd0).2.2.2.2.2) (ps.getD j pd0) = some (r, k) → P (320 * slV s (ps.getD j pd0).2.2.2.2.2 + 10 * r + k)) : F_X12_spotCell (q0 + j) s u P := e_spotN (EvN_of h) hj c hn hy
/-- the area that was found -/
def ArM (u : Mu) (x t b l r : Int) : Prop := mI u 0 71 = x ∧ mI u 0 72 = t ∧ mI u 0 73 = b ∧ mI u 0 74 = l ∧ mI u 0 75 = r
theorem ArM_f {D : Int → Prop} {u v : Mu} {x t b l r : Int} (f : FrS D u v) (h : ArM u x t b l r) : ArM v x t b l r := by
  have hd : wDis wRg [(0, none)] = true := by decide
  obtain ⟨h1, h2, h3, h4, h5⟩ := h
  exact ⟨(mE f.1 hd (wHas_a (by decide))).trans h1, (mE f.1 hd (wHas_a (by decide))).trans h2, (mE f.1 hd (wHas_a (by decide))).trans h3, (mE f.1 hd (wHas_a (by decide))).trans h4, (mE f.1 hd (wHas_a (by decide))).trans h5⟩
theorem e_least {a c : Int} {P : Int → Prop} (h : P (mnI a c)) : F_X12_least a c P := by
  unfold mnI at h
  unfold F_X12_least F_X12_least_10
  split
  · next w => rw [if_pos w] at h; exact h
  · next w => rw [if_neg w] at h; exact h
theorem e_most {a c : Int} {P : Int → Prop} (h : P (mxI a c)) : F_X12_most a c P := by
  unfold mxI at h
  unfold F_X12_most F_X12_most_10
  split
  · next w => rw [if_pos w] at h; exact h
  · next w => rw [if_neg w] at h; exact h
theorem kM_17 {p : Prt} (h : WfP p) : kM p = 6 ↔ p.1 = 17 := by
  unfold kM
  have h1 := h.1
  by_cases c : p.1 = 14
  · rw [if_pos c]
    have h2 := h.2.1
    revert h2
    cases p.2.2.1 with
    | none => exact fun h2 => absurd c h2
    | some l =>
      intro h2
      have := h2.2.1
      simp only
      omega
  · rw [if_neg c]
    repeat' split
    all_goals omega
/-- the counters of AND to COUNT stay -/
def CoS2 (u v : Mu) : Prop := mI v 0 76 = mI u 0 76 ∧ mG v 0 77 = mG u 0 77 ∧ mG v 0 78 = mG u 0 78 ∧ mI v 0 79 = mI u 0 79 ∧ mI v 0 80 = mI u 0 80 ∧ mI v 0 81 = mI u 0 81
theorem CoS2_f {D : Int → Prop} {u v : Mu} (f : FrS D u v) : CoS2 u v := by
  have hd : wDis wRg [(0, none)] = true := by decide
  exact ⟨mE f.1 hd (wHas_a (by decide)), gE f.1 hd (wHas_a (by decide)), gE f.1 hd (wHas_a (by decide)), mE f.1 hd (wHas_a (by decide)), mE f.1 hd (wHas_a (by decide)), mE f.1 hd (wHas_a (by decide))⟩
theorem e_areaN {u : Mu} {s : Int} {E : Int → Sh} {V : Int → Int → Int → Lit} {q0 : Int} {ps : List Prt} {j : Nat} {P : Int → Mu → Prop} (h : EvN u s E q0 ps) (hj : j < ps.length) (hn : avE E V ps j = none → ∀ v, FrT (fun _ => False) u v → CoS2 u v → P 0 v) (hy : ∀ t b l r, (ps.getD j pd0).1 = 17 → arP (E (ps.getD j pd0).2.2.2.2.2) (ps.getD j pd0) = some (t, b, l, r) → ∀ v, FrT (fun _ => False) u v → CoS2 u v → ArM v (slV s (ps.getD j pd0).2.2.2.2.2) t b l r → P 1 v) : F_X12_area (q0 + j) s u P := by
  obtain ⟨g1, g2, g3, g4⟩ := E_opN h hj
  unfold F_X12_area
  refine ⟨g3, g4, ?_⟩
  have k6 := kM_17 g1.2.2.2.2.2.2.2.2.2
  rw [g1.1]
  by_cases c : (ps.getD j pd0).1 = 17
  · rw [if_pos (k6.mpr c)]
    obtain ⟨m1, m2, m3, m4⟩ := h.2.2 j hj (Or.inr c)
    obtain ⟨-, -, -, p32, p33, p34, p35, -, p37, -⟩ := g1
    rw [if_neg (by omega)] at p34 p35
    refine e_sheetOf g3 g4 p37 ⟨g3, g4, i_placeS m2 m1 m3 (by omega) ⟨g3, g4, i_placeS m2 m1 m3 (by omega) ⟨g3, g4, i_placeS m2 m1 m3 (by omega) ⟨g3, g4, i_placeS m2 m1 m3 (by omega) ?_⟩⟩⟩⟩
    rw [p32, p33, p34, p35]
    intro w1 e1
    refine e_least ?_
    intro w2 e2
    refine e_most ?_
    intro w3 e3
    refine e_least ?_
    intro w4 e4
    refine e_most ?_
    intro w5 e5
    have f : FrT (fun _ => False) u w5 := by
      subst e5; subst e4; subst e3; subst e2; subst e1
      exact FrT_0 (FrT_0 (FrT_0 (FrT_0 (FrT_0 FrS_rf (by decide)) (by decide)) (by decide)) (by decide)) (by decide)
    have k : CoS2 u w5 := by
      subst e5; subst e4; subst e3; subst e2; subst e1
      refine ⟨?_, rfl, rfl, ?_, ?_, ?_⟩ <;> simp only [mI_uI] <;> rfl
    have a : ArM w5 (slV s (ps.getD j pd0).2.2.2.2.2) (mnI (plS (E (ps.getD j pd0).2.2.2.2.2) 0 ((ps.getD j pd0).2.2.2.1.1 - 1)) (plS (E (ps.getD j pd0).2.2.2.2.2) 0 ((ps.getD j pd0).2.2.2.1.2.2.1 - 1))) (mxI (plS (E (ps.getD j pd0).2.2.2.2.2) 0 ((ps.getD j pd0).2.2.2.1.1 - 1)) (plS (E (ps.getD j pd0).2.2.2.2.2) 0 ((ps.getD j pd0).2.2.2.1.2.2.1 - 1))) (mnI (plS (E (ps.getD j pd0).2.2.2.2.2) 1 ((ps.getD j pd0).2.2.2.1.2.1 - 1)) (plS (E (ps.getD j pd0).2.2.2.2.2) 1 ((ps.getD j pd0).2.2.2.1.2.2.2 - 1))) (mxI (plS (E (ps.getD j pd0).2.2.2.2.2) 1 ((ps.getD j pd0).2.2.2.1.2.1 - 1)) (plS (E (ps.getD j pd0).2.2.2.2.2) 1 ((ps.getD j pd0).2.2.2.1.2.2.2 - 1))) := by
      subst e5; subst e4; subst e3; subst e2; subst e1
      refine ⟨?_, ?_, ?_, ?_, ?_⟩ <;> simp only [mI_uI] <;> rfl
    unfold avE at hn
    rw [if_pos c] at hn
    unfold arP at hn hy
    unfold F_X12_area_149 F_X12_area_150
    by_cases c1 : plS (E (ps.getD j pd0).2.2.2.2.2) 0 ((ps.getD j pd0).2.2.2.1.1 - 1) < 0
    · rw [if_pos c1]; rw [if_pos (Or.inl c1)] at hn; exact ⟨Or.inl rfl, hn rfl w5 f k⟩
    rw [if_neg c1]
    by_cases c2 : plS (E (ps.getD j pd0).2.2.2.2.2) 1 ((ps.getD j pd0).2.2.2.1.2.1 - 1) < 0
    · rw [if_pos c2]; rw [if_pos (Or.inr (Or.inl c2))] at hn; exact ⟨Or.inl rfl, hn rfl w5 f k⟩
    rw [if_neg c2]
    by_cases c3 : plS (E (ps.getD j pd0).2.2.2.2.2) 0 ((ps.getD j pd0).2.2.2.1.2.2.1 - 1) < 0
    · rw [if_pos c3]; rw [if_pos (Or.inr (Or.inr (Or.inl c3)))] at hn; exact ⟨Or.inl rfl, hn rfl w5 f k⟩
    rw [if_neg c3]
    by_cases c4 : plS (E (ps.getD j pd0).2.2.2.2.2) 1 ((ps.getD j pd0).2.2.2.1.2.2.2 - 1) < 0
    · rw [if_pos c4]; rw [if_pos (Or.inr (Or.inr (Or.inr c4)))] at hn; exact ⟨Or.inl rfl, hn rfl w5 f k⟩
    rw [if_neg c4]
    rw [if_neg (by omega)] at hy
    exact ⟨Or.inr rfl, hy _ _ _ _ c rfl w5 f k a⟩
  · rw [if_neg (fun w => c (k6.mp w))]
    unfold avE at hn
    rw [if_neg c] at hn
    exact hn rfl u FrS_rf ⟨rfl, rfl, rfl, rfl, rfl, rfl⟩
theorem e_area {u : Mu} {s : Int} {E : Int → Sh} {V : Int → Int → Int → Lit} {q0 : Int} {ps : List Prt} {j : Nat} {P : Int → Mu → Prop} (h : EvM u s E V q0 ps) (hj : j < ps.length) (hn : avE E V ps j = none → ∀ v, FrT (fun _ => False) u v → CoS2 u v → P 0 v) (hy : ∀ t b l r, (ps.getD j pd0).1 = 17 → arP (E (ps.getD j pd0).2.2.2.2.2) (ps.getD j pd0) = some (t, b, l, r) → ∀ v, FrT (fun _ => False) u v → CoS2 u v → ArM v (slV s (ps.getD j pd0).2.2.2.2.2) t b l r → P 1 v) : F_X12_area (q0 + j) s u P := e_areaN (EvN_of h) hj hn hy
theorem e_size {u : Mu} {x t b l r : Int} {P : Int → Prop} (A : ArM u x t b l r) (h1 : 0 ≤ t ∧ t ≤ b ∧ b < 32) (h2 : 0 ≤ l ∧ l ≤ r ∧ r < 10) (h : P ((b - t + 1) * (r - l + 1))) : F_X12_areaSize u P := by
  obtain ⟨a1, a2, a3, a4, a5⟩ := A
  have sz := ar_s (t := t) (b := b) (l := l) (r := r) (by omega) (by omega) (by omega) (by omega)
  unfold F_X12_areaSize
  rw [a2, a3, a4, a5, w32e (x := b - t) (by omega) (by omega), w32e (x := b - t + 1) (by omega) (by omega), w32e (x := r - l) (by omega) (by omega), w32e (x := r - l + 1) (by omega) (by omega), w32e (by omega) (by omega)]
  exact h
theorem e_cell {u : Mu} {x t b l r k : Int} {P : Int → Prop} (A : ArM u x t b l r) (h1 : 0 ≤ t ∧ t ≤ b ∧ b < 32) (h2 : 0 ≤ l ∧ l ≤ r ∧ r < 10) (x0 : 0 ≤ x) (x1 : x ≤ 40) (k0 : 0 ≤ k) (k1 : k < (b - t + 1) * (r - l + 1)) (h : P (320 * x + 10 * (t + k / (r - l + 1)) + (l + k % (r - l + 1)))) : F_X12_areaCell k u P := by
  obtain ⟨a1, a2, a3, a4, a5⟩ := A
  have ak := ar_k (t := t) (b := b) (l := l) (r := r) (by omega) (by omega) k0 k1
  unfold F_X12_areaCell
  rw [a1, a2, a4, a5, w32e (x := r - l) (by omega) (by omega), w32e (x := r - l + 1) (by omega) (by omega), tdivE k0, tmodE k0]
  generalize k / (r - l + 1) = A at *
  generalize k % (r - l + 1) = B at *
  rw [w32e (x := A) (by omega) (by omega), w32e (x := B) (by omega) (by omega), w32e (x := t + A) (by omega) (by omega), w32e (x := 10 * (t + A)) (by omega) (by omega), w32e (x := 320 * x) (by omega) (by omega), w32e (x := 320 * x + 10 * (t + A)) (by omega) (by omega), w32e (x := 320 * x + 10 * (t + A) + l) (by omega) (by omega), w32e (by omega) (by omega)]
  refine ⟨by omega, by omega, ?_⟩
  rw [show 320 * x + 10 * (t + A) + l + B = 320 * x + 10 * (t + A) + (l + B) by omega]; exact h
