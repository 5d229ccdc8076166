/-! ===== the reference writes parts ===== -/
def lvM (x : Int) : Int := if 10 ≤ x ∧ x ≤ 15 then 1 else if x = 16 then 2 else if x = 17 ∨ x = 18 then 3 else if 19 ≤ x ∧ x ≤ 21 then 4 else if x = 7 then 5 else 6
theorem i_level {x : Int} {P : Int → Prop} (h : P (lvM x)) : F_X12_level x P := by
  unfold lvM at h
  unfold F_X12_level F_X12_level_33 F_X12_level_62
  refine i_in ?_
  by_cases c1 : 10 ≤ x ∧ x ≤ 15
  · rw [tb, if_pos c1, if_neg (by decide)]; rw [if_pos c1] at h; exact h
  · rw [tb, if_neg c1, if_pos rfl]; rw [if_neg c1] at h
    by_cases c2 : x = 16
    · rw [if_pos c2]; rw [if_pos c2] at h; exact h
    · rw [if_neg c2]; rw [if_neg c2] at h
      by_cases c3 : x = 17
      · rw [if_pos c3]; rw [if_pos (Or.inl c3)] at h; exact h
      · rw [if_neg c3]
        by_cases c4 : x = 18
        · rw [if_pos c4]; rw [if_pos (Or.inr c4)] at h; exact h
        · rw [if_neg c4]; rw [if_neg (by omega)] at h
          refine i_in ?_
          by_cases c5 : 19 ≤ x ∧ x ≤ 21
          · rw [tb, if_pos c5, if_neg (by decide)]; rw [if_pos c5] at h; exact h
          · rw [tb, if_neg c5, if_pos rfl]; rw [if_neg c5] at h
            by_cases c6 : x = 7
            · rw [if_pos c6]; rw [if_pos c6] at h; exact h
            · rw [if_neg c6]; rw [if_neg c6] at h; exact h
theorem kM_lit {p : Prt} {l : Lit} (e : p.1 = 14) (h : p.2.2.1 = some l) : kM p = l.1 := by unfold kM; rw [if_pos e, h]
theorem kM_o {p : Prt} (h : WfP p) (n : p.1 ≠ 14) : (p.1 = 15 → kM p = 4) ∧ (p.1 = 16 → kM p = 5) ∧ (p.1 = 17 → kM p = 6) ∧ (p.1 = 13 → kM p = 7) ∧ (p.1 ≤ 12 → kM p = p.1 + 9) ∧ (18 ≤ p.1 → kM p = p.1 + 12) := by
  have := h.1
  unfold kM
  rw [if_neg n]
  refine ⟨fun e => by rw [if_pos e], fun e => by rw [if_neg (by omega), if_pos e], fun e => by rw [if_neg (by omega), if_neg (by omega), if_pos e], fun e => by rw [if_neg (by omega), if_neg (by omega), if_neg (by omega), if_pos e], fun e => by rw [if_neg (by omega), if_neg (by omega), if_neg (by omega), if_neg (by omega), if_pos e], fun e => by rw [if_neg (by omega), if_neg (by omega), if_neg (by omega), if_neg (by omega), if_neg (by omega)]⟩
theorem lvM_k {p : Prt} (h : WfP p) : lvM (kM p) = bnd p.1 := by
  have h1 := h.1
  have h2 := h.2.1
  by_cases c : p.1 = 14
  · revert h2
    cases hl : p.2.2.1 with
    | none => intro h2; exact absurd c h2
    | some l =>
      intro h2
      have w := h2.2.1
      rw [kM_lit c hl, c]
      unfold lvM bnd
      rw [if_neg (by omega), if_neg (by omega), if_neg (by omega), if_neg (by omega), if_neg (by omega)]; rfl
  · obtain ⟨k1, k2, k3, k4, k5, k6⟩ := kM_o h c
    unfold lvM bnd
    by_cases c12 : p.1 ≤ 12
    · rw [k5 c12]
      by_cases d1 : p.1 ≤ 6
      · rw [if_pos (by omega), if_pos d1]
      · rw [if_neg (by omega), if_neg d1]
        by_cases d2 : p.1 = 7
        · rw [if_pos (by omega), if_pos d2]
        · rw [if_neg (by omega), if_neg d2]
          by_cases d3 : p.1 ≤ 9
          · rw [if_pos (by omega), if_pos d3]
          · rw [if_neg (by omega), if_neg d3, if_pos (by omega), if_pos c12]
    · rw [if_neg (by omega), if_neg (by omega), if_neg (by omega), if_neg c12] 
      have q : p.1 = 13 ∨ p.1 = 15 ∨ p.1 = 16 ∨ p.1 = 17 ∨ 18 ≤ p.1 := by omega
      rcases q with e | e | e | e | e
      · rw [k4 e, e]; rfl
      · rw [k1 e, e]; rfl
      · rw [k2 e, e]; rfl
      · rw [k3 e, e]; rfl
      · rw [k6 e, if_neg (by omega), if_neg (by omega), if_neg (by omega), if_neg (by omega), if_neg (by omega)]; simp; omega
theorem i_sign {o : Nat} {P : Nat → Prop} (h1 : 1 ≤ o) (h2 : o ≤ 12) (h : P (31 + o)) : F_X12_signOf ((o : Int) + 9) P := by
  have : o = 1 ∨ o = 2 ∨ o = 3 ∨ o = 4 ∨ o = 5 ∨ o = 6 ∨ o = 7 ∨ o = 8 ∨ o = 9 ∨ o = 10 ∨ o = 11 ∨ o = 12 := by omega
  unfold F_X12_signOf
  rcases this with rfl | rfl | rfl | rfl | rfl | rfl | rfl | rfl | rfl | rfl | rfl | rfl <;> exact h
theorem i_name {o : Nat} {P : Nat → Prop} (h1 : 18 ≤ o) (h2 : o ≤ 35) (h : P (o - 5)) : F_X12_nameOf ((o : Int) + 12) P := by
  have : o = 18 ∨ o = 19 ∨ o = 20 ∨ o = 21 ∨ o = 22 ∨ o = 23 ∨ o = 24 ∨ o = 25 ∨ o = 26 ∨ o = 27 ∨ o = 28 ∨ o = 29 ∨ o = 30 ∨ o = 31 ∨ o = 32 ∨ o = 33 ∨ o = 34 ∨ o = 35 := by omega
  unfold F_X12_nameOf
  rcases this with rfl | rfl | rfl | rfl | rfl | rfl | rfl | rfl | rfl | rfl | rfl | rfl | rfl | rfl | rfl | rfl | rfl | rfl <;> exact h
/-- a formula that lies from place q0 on -/
def FmM (u : Mu) (q0 : Int) (ps : List Prt) : Prop := (0 ≤ q0 ∧ q0 + (ps.length : Int) ≤ mI u 0 25 ∧ mI u 0 25 ≤ 60420) ∧ ∀ i : Nat, i < ps.length → PrtM u (q0 + i) (ps.getD i pd0) (ps.getD (i + 1) pd0).1 ∧ mI u 28 (q0 + i) = (spnL ps).getD i 0
theorem FmM_of {u : Mu} {q : Int} {l : Lit} {ps : List Prt} (B : CoB u) (h : ContM u q (some (5, l, ps))) : FmM u (q - 1) ps ∧ WfF ps ∧ (1 ≤ ps.length ∧ ps.length ≤ 60) ∧ mI u 38 (q - 1) = (ps.length : Int) ∧ 1 ≤ q := by
  unfold ContM at h
  simp only at h
  rw [if_pos trivial] at h
  obtain ⟨⟨x0, x1⟩, x2, ⟨x3, x5⟩, x6, x7⟩ := h
  have := B.2.2
  exact ⟨⟨⟨by omega, by omega, by omega⟩, x7⟩, x5, x3, x2, x0⟩
theorem FmM_P {u : Mu} {q0 : Int} {ps : List Prt} (h : FmM u q0 ps) {i : Int} (h0 : 0 ≤ i) (h1 : i < ps.length) : PrtM u (q0 + i) (ps.getD i.toNat pd0) (ps.getD (i.toNat + 1) pd0).1 ∧ mI u 28 (q0 + i) = (spnL ps).getD i.toNat 0 := by
  have := h.2 i.toNat (by omega)
  rw [Int.toNat_of_nonneg h0] at this; exact this
theorem i_under {u : Mu} {q0 i : Int} {ps : List Prt} {k : Int} {n : Nat} {P : Int → Prop} (F : FmM u q0 ps) (h0 : 0 ≤ i) (h1 : i < ps.length) (hn : (ps.getD i.toNat pd0).2.1 = (n : Int)) (wb : ∀ m, m < n → 0 ≤ wlk (spnL ps) m (i - 1) ∧ wlk (spnL ps) m (i - 1) ≤ i - 1) (k0 : 0 ≤ k) (k1 : k < n) (n9 : n ≤ 100) (h : P (q0 + wlk (spnL ps) (n - 1 - k.toNat) (i - 1))) : F_X12_under (q0 + i) k u P := by
  have f0 := F.1
  obtain ⟨⟨m26, m27, -⟩, -⟩ := FmM_P F h0 h1
  unfold F_X12_under
  refine ⟨by omega, by omega, ?_⟩
  rw [m27, hn, w32e (x := q0 + i - 1) (by omega) (by omega), w32e (x := (n : Int) - 1) (by omega) (by omega)]
  unfold F_X12_under_14
  refine lp_I (fun q => ∃ m : Nat, m ≤ n - 1 - k.toNat ∧ q.1 = q0 + wlk (spnL ps) m (i - 1) ∧ q.2 = (n : Int) - 1 - m) (fun q => q.2.toNat) ?_ (q0 + i - 1, (n : Int) - 1) ⟨0, by omega, by show q0 + i - 1 = q0 + wlk _ 0 _; rw [wlk]; omega, by show (n : Int) - 1 = _; omega⟩
  rintro G ⟨x3, x4⟩ ⟨m, m1, m2, m3⟩ ih
  simp only at m2 m3
  unfold L_X12_under_14
  dsimp only
  by_cases c : x4 ≤ k
  · rw [if_pos c]
    have em : m = n - 1 - k.toNat := by omega
    rw [em] at m2
    rw [m2]; exact h
  · rw [if_neg c]
    have b := wb m (by omega)
    have e28 := (FmM_P F b.1 (by omega)).2
    rw [m2, e28]
    have b2 := wb (m + 1) (by omega)
    rw [wlk_s] at b2
    refine ⟨by omega, by omega, ?_⟩
    have hs := spn_nn ps (wlk (spnL ps) m (i - 1)).toNat
    rw [w32e (by omega) (by omega), w32e (x := x4 + -1) (by omega) (by omega)]
    exact ih _ ⟨m + 1, by omega, by show _ = q0 + wlk (spnL ps) (m + 1) (i - 1); rw [wlk_s]; simp only; omega, by show x4 + -1 = _; omega⟩ (by show (x4 + -1).toNat < x4.toNat; omega)
theorem i_side {u : Mu} {L g : List Int} {n : Nat} {q s br : Int} {P : Mu → Prop} (o : OutM u L) (hl : L.length + (if br = 0 then g else [40] ++ g ++ [41]).length ≤ 2000) (rcc : ∀ (w : Mu) (M : List Int) (Q : Mu → Prop), OutM w M → FrM wWr u w → M.length + g.length ≤ 2000 → (∀ x, OutM x (M ++ g) → FrM wWr w x → Q x) → F_X12_putPart n q s w Q) (h : ∀ v, OutM v (L ++ (if br = 0 then g else [40] ++ g ++ [41])) → FrM wWr u v → P v) : F_X12_putSide (n + 1) q s br u P := by
  show B_X12_putSide (F_X12_putPart n) (F_X12_putSide n) q s br u P
  unfold B_X12_putSide F_X12_putSide_10 F_X12_putSide_26
  by_cases c : br = 0
  · rw [if_pos c]
    rw [if_pos c] at hl h
    refine rcc u L _ o FrM_rf hl (fun x o1 f1 => ?_)
    rw [if_pos c]; exact h x o1 f1
  · rw [if_neg c]
    rw [if_neg c] at hl h
    rw [List.length_append, List.length_append, List.length_singleton, List.length_singleton] at hl
    refine i_put o (by omega) (by decide) (by decide) (fun w o1 f1 => ?_)
    refine rcc w _ _ o1 f1 (by rw [List.length_append, List.length_singleton]; omega) (fun x o2 f2 => ?_)
    rw [if_neg c]
    refine i_put o2 (by rw [List.length_append, List.length_append, List.length_singleton]; omega) (by decide) (by decide) (fun y o3 f3 => h y ?_ (FrM_tr f1 (FrM_tr f2 f3)))
    rw [← List.append_assoc, ← List.append_assoc]; exact o3
theorem FmM_w {u v : Mu} {q0 : Int} {ps : List Prt} (B : CoB u) (f : FrM wWr u v) (h : FmM u q0 ps) : FmM v q0 ps := by
  have g := Grw_fr B.1.1 f (by decide)
  have e25 := mE f (R := rgC) (by decide) (k := 0) (i := 25) (wHas_i (by decide))
  refine ⟨by rw [e25]; exact h.1, fun i hi => ?_⟩
  obtain ⟨h1, h2⟩ := h.2 i hi
  have := h.1
  exact ⟨PrtM_g g (by omega) (by omega) h1, by rw [mE f (R := rgC) (by decide) (k := 28) (wHas_a (by decide))]; exact h2⟩
