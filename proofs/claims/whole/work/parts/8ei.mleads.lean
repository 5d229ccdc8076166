/-! ===== the reference: the values of a sheet: what a formula leads to ===== -/
def wVa : WR := [(66, none), (67, none), (68, none), (69, none), (70, none), (0, some 71), (0, some 72), (0, some 73), (0, some 74), (0, some 75), (0, some 76), (0, some 77), (0, some 78), (0, some 79), (0, some 80), (0, some 81), (60, none), (61, none), (62, none), (63, none), (82, none), (83, none), (84, none), (85, none)]
def wLd : WR := [(66, none), (67, none), (68, none), (69, none), (70, none), (0, some 71), (0, some 72), (0, some 73), (0, some 74), (0, some 75), (0, some 76), (0, some 77), (0, some 78), (0, some 79), (0, some 80), (0, some 81), (82, none)]
/-- slot s is to be worked out: its sheet h, and the versions below n with their values G -/
def VxM (u : Mu) (s n : Int) (F : Int → Sh) (G : Int → Int → Int → Lit) (h : Sh) : Prop := ((0 ≤ s ∧ s ≤ 40) ∧ n ≤ s) ∧ CoB u ∧ ShM u s h ∧ (∀ v, 0 ≤ v → v < n → ShM u v (F v) ∧ ∀ r c, 0 ≤ r → r < (F v).1.1 → 0 ≤ c → c < (F v).1.2 → CvM u (320 * v + 10 * r + c) (G v r c)) ∧ WfZ F n h
abbrev FrV (s : Int) (u v : Mu) : Prop := FrW wVa (fun x => 320 * s ≤ x ∧ x < 320 * s + 320) u v
theorem ShM_v {u v : Mu} {t : Int} {h : Sh} (hb : ShB h) (B : CoB u) (f : FrM wVa u v) (m : ShM u t h) : ShM v t h := ShM_s hb (Grw_fr B.1.1 f (by decide)) (SlM_fr f (by decide)) m
section Vx
variable {u v : Mu} {s n : Int} {F : Int → Sh} {G : Int → Int → Int → Lit} {h : Sh}
theorem VxM_f (f : FrV s u v) (X : VxM u s n F G h) : VxM v s n F G h := by
  obtain ⟨x1, x2, x3, x4, x5⟩ := X
  refine ⟨x1, CoB_fr f.1 (by decide) x2, ShM_v x5.1 x2 f.1 x3, fun w w0 w1 => ⟨ShM_v (x5.2.1 w w0 w1) x2 f.1 (x4 w w0 w1).1, fun r c r0 r1 c0 c1 => ?_⟩, x5⟩
  have hb := x5.2.1 w w0 w1
  obtain ⟨⟨b1, b2⟩, b3, b4⟩ := hb
  exact CvM_w f (fun z => by omega) ((x4 w w0 w1).2 r c r0 r1 c0 c1)
theorem VxM_ct (X : VxM u s n F G h) {k : Int} (hk : inS h k) : ContM u (mI u 5 (320 * s + k)) (ctC h k) := by
  have h1 := hk.1
  have := X.2.2.1.2.2.2 (k / 10) (k % 10) (by omega) hk.2.1 (by omega) hk.2.2
  rw [show 320 * s + 10 * (k / 10) + k % 10 = 320 * s + k by omega] at this
  exact this
theorem VxM_N (X : VxM u s n F G h) {k : Int} (hk : inS h k) {l : Lit} {ps : List Prt} (e : ctC h k = some (5, l, ps)) : EvN u s (eS F h) (mI u 5 (320 * s + k) - 1) ps ∧ mI u 38 (mI u 5 (320 * s + k) - 1) = (ps.length : Int) ∧ (1 ≤ mI u 5 (320 * s + k) ∧ mI u 5 (320 * s + k) - 1 + (ps.length : Int) ≤ 60420) ∧ (1 ≤ ps.length ∧ ps.length ≤ 60) ∧ WfV ps := by
  have hc := VxM_ct X hk
  rw [e] at hc
  unfold ContM at hc
  have hc := hc
  simp only [if_true] at hc
  obtain ⟨⟨c1, c2⟩, c3, ⟨c4, c5⟩, -, c6⟩ := hc
  have hB := X.2.1.2.2
  obtain ⟨w1, w2, w3⟩ := X.2.2.2.2.2.2 k hk l ps e
  refine ⟨⟨⟨⟨by omega, c2, hB⟩, c6⟩, X.1.1, fun j hj c => ?_⟩, c3, ⟨c1, by omega⟩, c4, w1⟩
  obtain ⟨v1, v2⟩ := w3 j hj
  have x1 := X.1
  unfold eS slV
  by_cases cv : (ps.getD j pd0).2.2.2.2.2 < 0
  · rw [if_pos cv, if_neg (by omega)]; exact ⟨X.2.2.1, X.2.2.2.2.1, by omega, by omega⟩
  · rw [if_neg cv, if_pos (by omega)]; exact ⟨(X.2.2.2.1 _ (by omega) v1).1, X.2.2.2.2.2.1 _ (by omega) v1, by omega, by omega⟩
theorem VxM_E (X : VxM u s n F G h) {k : Int} (hk : inS h k) {l : Lit} {ps : List Prt} (e : ctC h k = some (5, l, ps)) {f : Int → Int → Lit} (hf : ∀ j, LdP h ps j → CvM u (320 * s + j) (f (j / 10) (j % 10))) : EvM u s (eS F h) (vS G f) (mI u 5 (320 * s + k) - 1) ps := by
  obtain ⟨⟨n1, n2, n3⟩, -, -, n5, n6⟩ := VxM_N X hk e
  obtain ⟨w1, w2, w3⟩ := X.2.2.2.2.2.2 k hk l ps e
  refine ⟨X.2.1, n1, ⟨n2, fun j hj c => ⟨n3 j hj c, fun c16 na r q es => ?_, fun c17 t b lf r ea x y x0 x1 y0 y1 => ?_⟩⟩, n6, n5.2⟩
  · obtain ⟨v1, v2⟩ := w3 j hj
    unfold eS at es
    unfold vS slV
    by_cases cv : (ps.getD j pd0).2.2.2.2.2 < 0
    · rw [if_pos cv] at es
      rw [if_pos cv, if_neg (by omega)]
      have sb := spP_b X.2.2.2.2.1 es
      have := hf (10 * r + q) ⟨j, hj, by omega, Or.inl ⟨c16, na, r, q, es, rfl⟩⟩
      rw [show (10 * r + q) / 10 = r by omega, show (10 * r + q) % 10 = q by omega, show 320 * s + (10 * r + q) = 320 * s + 10 * r + q by omega] at this
      exact this
    · rw [if_neg cv] at es
      rw [if_neg cv, if_pos (by omega)]
      have sb := spP_b (X.2.2.2.2.2.1 _ (by omega) v1) es
      exact (X.2.2.2.1 _ (by omega) v1).2 r q (by omega) (by omega) (by omega) (by omega)
  · obtain ⟨v1, v2⟩ := w3 j hj
    unfold eS at ea
    unfold vS slV
    by_cases cv : (ps.getD j pd0).2.2.2.2.2 < 0
    · rw [if_pos cv] at ea
      rw [if_pos cv, if_neg (by omega)]
      have ab := arP_b X.2.2.2.2.1 ea
      have := hf (10 * x + y) ⟨j, hj, by omega, Or.inr ⟨c17, t, b, lf, r, ea, x, y, ⟨x0, x1⟩, ⟨y0, y1⟩, rfl⟩⟩
      rw [show (10 * x + y) / 10 = x by omega, show (10 * x + y) % 10 = y by omega, show 320 * s + (10 * x + y) = 320 * s + 10 * x + y by omega] at this
      exact this
    · rw [if_neg cv] at ea
      rw [if_neg cv, if_pos (by omega)]
      have ab := arP_b (X.2.2.2.2.2.1 _ (by omega) v1) ea
      exact (X.2.2.2.1 _ (by omega) v1).2 x y (by omega) (by omega) (by omega) (by omega)
end Vx
theorem kM_16 {p : Prt} (h : WfP p) : kM p = 5 ↔ p.1 = 16 := by
  unfold kM
  have h1 := h.1
  by_cases c : p.1 = 14
  · rw [if_pos c]
    have h2 := h.2.1
    revert h2
    cases p.2.2.1 with
    | none => exact fun h2 => absurd c h2
    | some l =>
      intro h2
      have := h2.2.1
      simp only
      omega
  · rw [if_neg c]
    repeat' split
    all_goals omega
theorem b16 : ∀ x : Nat, x < 4 → bAnd (x : Int) 16 = 0 ∧ bAnd ((x : Int) + 16) 16 ≠ 0 := by decide +kernel
theorem sw2_in4 {x : Int} (h0 : 0 ≤ x) (h1 : x < 4) : 0 ≤ sw2 x ∧ sw2 x < 4 := by
  unfold sw2; repeat' split
  all_goals omega
theorem fM_16 {p : Prt} {nx : Int} (c : p.1 = 16) : bAnd (fM p nx) 16 = 0 ↔ ¬ (nx = 29 ∨ nx = 30) := by
  unfold fM
  rw [if_pos c]
  have sb := sw2_in4 (x := p.2.2.2.2.1 % 4) (by omega) (by omega)
  obtain ⟨b1, b2⟩ := b16 (sw2 (p.2.2.2.2.1 % 4)).toNat (by omega)
  rw [Int.toNat_of_nonneg sb.1] at b1 b2
  by_cases cn : nx = 29 ∨ nx = 30
  · rw [if_pos cn]; exact ⟨fun w => absurd w b2, fun w => absurd cn w⟩
  · rw [if_neg cn, Int.add_zero]; exact ⟨fun _ => cn, fun _ => b1⟩
/-- what part i leads to -/
def LdP1 (h : Sh) (ps : List Prt) (i : Nat) (j : Int) : Prop := (ps.getD i pd0).2.2.2.2.2 = -1 ∧ (((ps.getD i pd0).1 = 16 ∧ ¬ alnP ps i ∧ ∃ r c, spP h (ps.getD i pd0) = some (r, c) ∧ j = 10 * r + c) ∨ ((ps.getD i pd0).1 = 17 ∧ ∃ t b l r, arP h (ps.getD i pd0) = some (t, b, l, r) ∧ ∃ x y, (t ≤ x ∧ x ≤ b) ∧ (l ≤ y ∧ y ≤ r) ∧ j = 10 * x + y))
theorem LdP_1 {h : Sh} {ps : List Prt} {j : Int} : LdP h ps j ↔ ∃ i : Nat, i < ps.length ∧ LdP1 h ps i j := Iff.rfl
theorem ar_inv {t b l r x y : Int} (hx : t ≤ x ∧ x ≤ b) (hy : l ≤ y ∧ y ≤ r) : ∃ k, (0 ≤ k ∧ k < (b - t + 1) * (r - l + 1)) ∧ x = t + k / (r - l + 1) ∧ y = l + k % (r - l + 1) := by
  have w0 : 0 < r - l + 1 := by omega
  refine ⟨(x - t) * (r - l + 1) + (y - l), ⟨?_, ?_⟩, ?_, ?_⟩
  · have := Int.mul_nonneg (a := x - t) (b := r - l + 1) (by omega) (by omega); omega
  · have h1 : (x - t) * (r - l + 1) + (r - l + 1) ≤ (b - t + 1) * (r - l + 1) := by
      have := Int.mul_le_mul_of_nonneg_right (a := x - t + 1) (b := b - t + 1) (c := r - l + 1) (by omega) (by omega)
      rw [Int.add_mul, Int.one_mul] at this
      exact this
    omega
  · rw [Int.add_comm ((x - t) * (r - l + 1)), Int.add_mul_ediv_right _ _ (by omega), Int.ediv_eq_zero_of_lt (by omega) (by omega)]; omega
  · rw [Int.add_comm ((x - t) * (r - l + 1)), Int.add_mul_emod_self_right, Int.emod_eq_of_lt (by omega) (by omega)]; omega
theorem ArM_m {L : WR} {u v : Mu} {x t b l r : Int} (f : FrM L u v) (hd : wDis L [(0, none)] = true) (h : ArM u x t b l r) : ArM v x t b l r := by
  obtain ⟨h1, h2, h3, h4, h5⟩ := h
  exact ⟨(mE f hd (wHas_a (by decide))).trans h1, (mE f hd (wHas_a (by decide))).trans h2, (mE f hd (wHas_a (by decide))).trans h3, (mE f hd (wHas_a (by decide))).trans h4, (mE f hd (wHas_a (by decide))).trans h5⟩
theorem e_l117 {u : Mu} {s k x3 x4 t b l r : Int} {Q : (Int × Mu) ⊕ Mu → Prop} (k0 : 0 ≤ k) (k1 : k < 320) (s0 : 0 ≤ s) (s1 : s ≤ 40) (A : ArM u s t b l r) (h1 : 0 ≤ t ∧ t ≤ b ∧ b < 32) (h2 : 0 ≤ l ∧ l ≤ r ∧ r < 10) (x0 : 0 ≤ x4) (x1 : x4 < 1000) (h : ∀ v, FrM [(82, none)] u v → (∀ k' j', 0 ≤ j' → j' < 320 → (BtR (mG v 82) k' j' ↔ (BtR (mG u 82) k' j' ∨ (k' = k ∧ ∃ x y, (t ≤ x ∧ x ≤ b) ∧ (l ≤ y ∧ y ≤ r) ∧ j' = 10 * x + y)))) → Q (.inl (x4 + 1, v))) : F_X12_leadsOf_117 s k x3 x4 0 u Q := by
  have sz := ar_s (t := t) (b := b) (l := l) (r := r) (by omega) (by omega) (by omega) (by omega)
  unfold F_X12_leadsOf_117
  refine lp_I (fun q => (0 ≤ q.1 ∧ q.1 ≤ (b - t + 1) * (r - l + 1)) ∧ FrM [(82, none)] u q.2 ∧ ∀ k' j', 0 ≤ j' → j' < 320 → (BtR (mG q.2 82) k' j' ↔ (BtR (mG u 82) k' j' ∨ (k' = k ∧ ∃ y, (0 ≤ y ∧ y < q.1) ∧ j' = 10 * (t + y / (r - l + 1)) + (l + y % (r - l + 1)))))) (fun q => ((b - t + 1) * (r - l + 1) - q.1).toNat) ?_ (0, u) (And.intro ⟨by show (0 : Int) ≤ 0; omega, by show (0 : Int) ≤ _; omega⟩ (And.intro FrM_rf (fun k' j' _ _ => ⟨fun w => Or.inl w, fun w => w.elim id (fun ⟨_, y, hy, _⟩ => by have a : 0 ≤ y := hy.1; have c : y < 0 := hy.2; omega)⟩)))
  rintro G3 ⟨y, w⟩ ⟨⟨y0, y1⟩, g, H⟩ ih
  simp only at y0 y1 g H
  show L_X12_leadsOf_117 s k x3 x4 y w _
  unfold L_X12_leadsOf_117
  have A2 := ArM_m g (by decide) A
  refine e_size A2 h1 h2 ?_
  by_cases c : (b - t + 1) * (r - l + 1) ≤ y
  · rw [if_pos c]
    show F_X12_leadsOf_149 s k x3 x4 w Q
    unfold F_X12_leadsOf_149
    rw [w32e (x := x4 + 1) (by omega) (by omega)]
    refine h w g (fun k' j' j0 j1 => ?_)
    rw [H k' j' j0 j1]
    constructor
    · rintro (z | ⟨z1, y', z2, z3⟩)
      · exact Or.inl z
      · have ak := ar_k (t := t) (b := b) (l := l) (r := r) (k := y') (by omega) (by omega) z2.1 (by omega)
        exact Or.inr ⟨z1, _, _, ak.1, ak.2, z3⟩
    · rintro (z | ⟨z1, x, y', z2, z3, z4⟩)
      · exact Or.inl z
      · obtain ⟨q, q1, q2, q3⟩ := ar_inv z2 z3
        exact Or.inr ⟨z1, q, ⟨q1.1, by omega⟩, by rw [← q2, ← q3]; exact z4⟩
  · rw [if_neg c]
    have ak := ar_k (t := t) (b := b) (l := l) (r := r) (k := y) (by omega) (by omega) y0 (by omega)
    refine e_cell A2 h1 h2 s0 s1 y0 (by omega) ?_
    have hq : 10 * (t + y / (r - l + 1)) + (l + y % (r - l + 1)) < 320 ∧ 0 ≤ 10 * (t + y / (r - l + 1)) + (l + y % (r - l + 1)) := by
      generalize y / (r - l + 1) = A at *
      generalize y % (r - l + 1) = B at *
      omega
    have hq2 : w32 (320 * s + 10 * (t + y / (r - l + 1)) + (l + y % (r - l + 1)) - w32 (320 * s)) = 10 * (t + y / (r - l + 1)) + (l + y % (r - l + 1)) := by
      generalize y / (r - l + 1) = A at *
      generalize y % (r - l + 1) = B at *
      rw [w32e (x := 320 * s) (by omega) (by omega), w32e (by omega) (by omega)]; omega
    rw [hq2]
    refine e_lead k0 k1 hq.2 hq.1 (fun v g2 hv => ?_)
    rw [w32e (x := y + 1) (by omega) (by omega)]
    refine ih (y + 1, v) (And.intro ⟨by show 0 ≤ y + 1; omega, by show y + 1 ≤ _; omega⟩ (And.intro (FrM_tr g g2) (fun k' j' j0 j1 => ?_))) (by show (_ - (y + 1)).toNat < (_ - y).toNat; omega)
    show BtR (mG v 82) k' j' ↔ (BtR (mG u 82) k' j' ∨ (k' = k ∧ ∃ y', (0 ≤ y' ∧ y' < y + 1) ∧ j' = 10 * (t + y' / (r - l + 1)) + (l + y' % (r - l + 1))))
    rw [hv k' j' j0 j1, H k' j' j0 j1]
    constructor
    · rintro ((z | ⟨z1, y', z2, z3⟩) | ⟨z1, z2⟩)
      · exact Or.inl z
      · exact Or.inr ⟨z1, y', ⟨z2.1, by omega⟩, z3⟩
      · exact Or.inr ⟨z1, y, ⟨y0, by omega⟩, z2⟩
    · rintro (z | ⟨z1, y', z2, z3⟩)
      · exact Or.inl (Or.inl z)
      · by_cases cy : y' = y
        · exact Or.inr ⟨z1, by rw [cy] at z3; exact z3⟩
        · exact Or.inl (Or.inr ⟨z1, y', ⟨z2.1, by omega⟩, z3⟩)
section Vx2
variable {u : Mu} {s n : Int} {F : Int → Sh} {G : Int → Int → Int → Lit} {h : Sh}
theorem e_l104 {k q : Int} {i : Nat} {ps : List Prt} {Q : (Int × Mu) ⊕ Mu → Prop} (k0 : 0 ≤ k) (k1 : k < 320) (hb : ShB h) (N : EvN u s (eS F h) (q - 1) ps) (hi : i < ps.length) (h60 : ps.length ≤ 60) (hv : (ps.getD i pd0).2.2.2.2.2 = -1) (ha : (ps.getD i pd0).1 = 16 → alnP ps i) (p : ∀ v, FrM wLd u v → (∀ k' j', 0 ≤ j' → j' < 320 → (BtR (mG v 82) k' j' ↔ (BtR (mG u 82) k' j' ∨ (k' = k ∧ LdP1 h ps i j')))) → Q (.inl ((i : Int) + 1, v))) : F_X12_leadsOf_104 s k q i (q - 1 + i) u Q := by
  have e1 : eS F h (ps.getD i pd0).2.2.2.2.2 = h := by unfold eS; rw [if_pos (by omega)]
  have e2 : slV s (ps.getD i pd0).2.2.2.2.2 = s := by unfold slV; rw [if_neg (by omega)]
  unfold F_X12_leadsOf_104
  refine e_areaN (V := fun _ _ _ => (0, 0, [])) N hi (fun hn v f _ => ?_) (fun t b l r c ea v f _ A => ?_)
  · rw [if_pos rfl]
    unfold F_X12_leadsOf_149
    rw [w32e (x := (i : Int) + 1) (by omega) (by omega)]
    refine p v (FrM_up f.1 (by decide)) (fun k' j' j0 j1 => ?_)
    rw [show mG v 82 = mG u 82 from funext (fun x => gE f.1 (R := [(82, none)]) (by decide) (wHas_a (by decide)))]
    refine ⟨fun z => Or.inl z, fun z => z.elim id (fun ⟨_, _, z⟩ => ?_)⟩
    rcases z with ⟨z1, z2, -⟩ | ⟨z1, t, b, l, r, z2, -⟩
    · exact absurd (ha z1) z2
    · unfold avE at hn
      rw [if_pos z1, e1, z2] at hn
      exact absurd hn (by simp)
  · rw [if_neg (by decide)]
    rw [e1] at ea
    rw [e2] at A
    have ab := arP_b hb ea
    refine e_l117 k0 k1 N.2.1.1 N.2.1.2 A (by omega) (by omega) (by omega) (by omega) (fun w g hw => p w (FrM_tr (FrM_up f.1 (by decide)) (FrM_up g (by decide))) (fun k' j' j0 j1 => ?_))
    rw [hw k' j' j0 j1, show mG v 82 = mG u 82 from funext (fun x => gE f.1 (R := [(82, none)]) (by decide) (wHas_a (by decide)))]
    constructor
    · rintro (z | ⟨z1, z2⟩)
      · exact Or.inl z
      · exact Or.inr ⟨z1, hv, Or.inr ⟨c, t, b, l, r, ea, z2⟩⟩
    · rintro (z | ⟨z1, -, z2⟩)
      · exact Or.inl z
      · refine Or.inr ⟨z1, ?_⟩
        rcases z2 with ⟨z2, -⟩ | ⟨-, t', b', l', r', z2, z3⟩
        · omega
        · rw [ea] at z2
          injection z2 with z2
          injection z2 with q1 z2
          injection z2 with q2 z2
          injection z2 with q3 q4
          rw [q1, q2, q3, q4]; exact z3
theorem e_leads {k : Int} {l : Lit} {ps : List Prt} {P : Mu → Prop} (X : VxM u s n F G h) (hk : inS h k) (e : ctC h k = some (5, l, ps)) (p : ∀ v, FrM wLd u v → (∀ k' j', 0 ≤ j' → j' < 320 → (BtR (mG v 82) k' j' ↔ (BtR (mG u 82) k' j' ∨ (k' = k ∧ LdP h ps j')))) → P v) : F_X12_leadsOf s k u P := by
  obtain ⟨N1, N2, N3, N4, N5⟩ := VxM_N X hk e
  have hk1 := hk.1
  have hs := X.1
  obtain ⟨w1, w2, w3⟩ := X.2.2.2.2.2.2 k hk l ps e
  unfold F_X12_leadsOf
  rw [w32e (x := 320 * s) (by omega) (by omega), w32e (x := 320 * s + k) (by omega) (by omega)]
  refine ⟨by omega, by omega, ?_⟩
  unfold F_X12_leadsOf_16
  refine lp_I (fun z => (0 ≤ z.1 ∧ z.1 ≤ (ps.length : Int)) ∧ FrM wLd u z.2 ∧ ∀ k' j', 0 ≤ j' → j' < 320 → (BtR (mG z.2 82) k' j' ↔ (BtR (mG u 82) k' j' ∨ (k' = k ∧ ∃ i : Nat, (i : Int) < z.1 ∧ LdP1 h ps i j')))) (fun z => ((ps.length : Int) - z.1).toNat) ?_ (0, u) (And.intro ⟨by show (0 : Int) ≤ 0; omega, by show (0 : Int) ≤ _; omega⟩ (And.intro FrM_rf (fun k' j' _ _ => ⟨fun w => Or.inl w, fun w => w.elim id (fun ⟨_, y, hy, _⟩ => by have c : (y : Int) < 0 := hy; omega)⟩)))
  rintro G3 ⟨x, w⟩ ⟨⟨x0, x1⟩, g, H⟩ ih
  simp only at x0 x1 g H
  show L_X12_leadsOf_16 s k (mI u 5 (320 * s + k)) x w _
  unfold L_X12_leadsOf_16
  have gV : FrV s u w := FrW_mo (FrW_of (C := fun x => 320 * s ≤ x ∧ x < 320 * s + 320) g (by decide)) (by decide) (fun _ z => z)
  obtain ⟨M1, M2, -⟩ := VxM_N (VxM_f gV X) hk e
  have e5 : mI w 5 (320 * s + k) = mI u 5 (320 * s + k) := mE g (R := [(5, none)]) (by decide) (wHas_a (by decide))
  rw [e5] at M1 M2
  generalize hq : mI u 5 (320 * s + k) = q at *
  rw [w32e (x := q - 1) (by omega) (by omega), w32e (x := q - 1 + x) (by omega) (by omega), M2]
  refine ⟨by omega, by omega, ?_⟩
  by_cases c : (ps.length : Int) ≤ x
  · rw [if_pos c]
    show P w
    refine p w g (fun k' j' j0 j1 => ?_)
    rw [H k' j' j0 j1, LdP_1]
    constructor
    · rintro (z | ⟨z1, i, z2, z3⟩)
      · exact Or.inl z
      · exact Or.inr ⟨z1, i, by omega, z3⟩
    · rintro (z | ⟨z1, i, z2, z3⟩)
      · exact Or.inl z
      · exact Or.inr ⟨z1, i, by omega, z3⟩
  rw [if_neg c]
  refine ⟨by omega, by omega, ?_⟩
  obtain ⟨i, rfl⟩ : ∃ i : Nat, x = i := ⟨x.toNat, by omega⟩
  have hi : i < ps.length := by omega
  have nx : ∀ v, FrM wLd w v → (∀ k' j', 0 ≤ j' → j' < 320 → (BtR (mG v 82) k' j' ↔ (BtR (mG w 82) k' j' ∨ (k' = k ∧ LdP1 h ps i j')))) → G3 ((i : Int) + 1, v) := fun v f hv => by
    refine ih ((i : Int) + 1, v) (And.intro ⟨by show 0 ≤ (i : Int) + 1; omega, by show (i : Int) + 1 ≤ _; omega⟩ (And.intro (FrM_tr g f) (fun k' j' j0 j1 => ?_))) (by show (_ - ((i : Int) + 1)).toNat < (_ - (i : Int)).toNat; omega)
    show BtR (mG v 82) k' j' ↔ (BtR (mG u 82) k' j' ∨ (k' = k ∧ ∃ i' : Nat, (i' : Int) < (i : Int) + 1 ∧ LdP1 h ps i' j'))
    rw [hv k' j' j0 j1, H k' j' j0 j1]
    constructor
    · rintro ((z | ⟨z1, i', z2, z3⟩) | ⟨z1, z2⟩)
      · exact Or.inl z
      · exact Or.inr ⟨z1, i', by omega, z3⟩
      · exact Or.inr ⟨z1, i, by omega, z2⟩
    · rintro (z | ⟨z1, i', z2, z3⟩)
      · exact Or.inl (Or.inl z)
      · by_cases cy : i' = i
        · exact Or.inr ⟨z1, by rw [cy] at z3; exact z3⟩
        · exact Or.inl (Or.inr ⟨z1, i', by omega, z3⟩)
  have same : (¬ ∃ j', LdP1 h ps i j') → ∀ k' j', 0 ≤ j' → j' < 320 → (BtR (mG w 82) k' j' ↔ (BtR (mG w 82) k' j' ∨ (k' = k ∧ LdP1 h ps i j'))) := fun hn k' j' _ _ => ⟨fun z => Or.inl z, fun z => z.elim id (fun z => absurd ⟨j', z.2⟩ hn)⟩
  obtain ⟨v1, v2⟩ := w3 i hi
  obtain ⟨g1, g2, g3, g4⟩ := E_opN M1 hi
  obtain ⟨p26, -, -, -, -, -, -, p36, p37, pw⟩ := g1
  rw [p37]
  by_cases cv : (ps.getD i pd0).2.2.2.2.2 < 0
  · rw [if_pos cv]
    refine ⟨by omega, by omega, ?_⟩
    rw [p26]
    by_cases c5 : kM (ps.getD i pd0) = 5
    · have c16 := (kM_16 pw).mp c5
      rw [if_pos c5]
      refine ⟨by omega, by omega, ?_⟩
      rw [p36]
      by_cases ca : alnP ps i
      · rw [if_neg (fun z => (fM_16 c16).mp z ca)]
        exact e_l104 hk1.1 hk1.2 X.2.2.2.2.1 M1 hi w2.2 (by omega) (fun _ => ca) nx
      · rw [if_pos ((fM_16 c16).mpr ca)]
        have e1 : eS F h (ps.getD i pd0).2.2.2.2.2 = h := by unfold eS; rw [if_pos (by omega)]
        have e2 : slV s (ps.getD i pd0).2.2.2.2.2 = s := by unfold slV; rw [if_neg (by omega)]
        refine e_spotN M1 hi c16 (fun hn => ?_) (fun r cc hy => ?_)
        · rw [if_pos (by decide)]
          unfold F_X12_leadsOf_101 F_X12_leadsOf_149
          rw [w32e (x := (i : Int) + 1) (by omega) (by omega)]
          refine nx w FrM_rf (same ?_)
          rintro ⟨j', -, z⟩
          rcases z with ⟨-, -, r, cc, z2, -⟩ | ⟨z1, -⟩
          · rw [e1, z2] at hn; cases hn
          · omega
        · rw [e1] at hy
          rw [e2]
          have sb := spP_b X.2.2.2.2.1 hy
          rw [if_neg (by omega), w32e (x := 320 * s) (by omega) (by omega), w32e (x := 320 * s + 10 * r + cc - 320 * s) (by omega) (by omega)]
          refine e_lead hk1.1 hk1.2 (by omega) (by omega) (fun v f hv => ?_)
          unfold F_X12_leadsOf_101 F_X12_leadsOf_149
          rw [w32e (x := (i : Int) + 1) (by omega) (by omega)]
          refine nx v (FrM_up f (by decide)) (fun k' j' j0 j1 => ?_)
          rw [hv k' j' j0 j1]
          constructor
          · rintro (z | ⟨z1, z2⟩)
            · exact Or.inl z
            · exact Or.inr ⟨z1, by omega, Or.inl ⟨c16, ca, r, cc, hy, by omega⟩⟩
          · rintro (z | ⟨z1, -, z2⟩)
            · exact Or.inl z
            · refine Or.inr ⟨z1, ?_⟩
              rcases z2 with ⟨-, -, r', c', z2, z3⟩ | ⟨z2, -⟩
              · rw [hy] at z2
                injection z2 with z2
                injection z2 with q1 q2
                omega
              · omega
    · rw [if_neg c5]
      exact e_l104 hk1.1 hk1.2 X.2.2.2.2.1 M1 hi w2.2 (by omega) (fun z => absurd ((kM_16 pw).mpr z) c5) nx
  · rw [if_neg cv]
    unfold F_X12_leadsOf_149
    rw [w32e (x := (i : Int) + 1) (by omega) (by omega)]
    refine nx w FrM_rf (same ?_)
    rintro ⟨j', z, -⟩
    omega
end Vx2
