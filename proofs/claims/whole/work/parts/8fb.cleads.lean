/-! ===== the system: what a formula leads to, by the system's numbers of cells ===== -/
def cdI (h : Sh) (i : Int) : Int := 10 * (i / h.1.2) + i % h.1.2
def ixI (h : Sh) (k : Int) : Int := (k / 10) * h.1.2 + k % 10
def inI (h : Sh) (i : Int) : Prop := 0 ≤ i ∧ i < h.1.1 * h.1.2
theorem cnt_b {h : Sh} (hb : ShB h) : 1 ≤ h.1.1 * h.1.2 ∧ h.1.1 * h.1.2 ≤ 320 := by
  obtain ⟨⟨b1, b2⟩, b3, b4⟩ := hb
  have h1 := Int.mul_le_mul_of_nonneg_right (a := h.1.1) (b := 32) (c := h.1.2) (by omega) (by omega)
  have h2 := Int.mul_le_mul_of_nonneg_right (a := 1) (b := h.1.1) (c := h.1.2) (by omega) (by omega)
  omega
theorem xy_in {h : Sh} (hb : ShB h) {x y : Int} (x0 : 0 ≤ x) (x1 : x < h.1.1) (y0 : 0 ≤ y) (y1 : y < h.1.2) : inI h (x * h.1.2 + y) ∧ (x * h.1.2 + y) / h.1.2 = x ∧ (x * h.1.2 + y) % h.1.2 = y := by
  obtain ⟨⟨b1, b2⟩, b3, b4⟩ := hb
  have h0 : 0 ≤ x * h.1.2 := Int.mul_nonneg x0 (by omega)
  have h1 : (x + 1) * h.1.2 ≤ h.1.1 * h.1.2 := Int.mul_le_mul_of_nonneg_right (by omega) (by omega)
  rw [Int.add_mul, Int.one_mul] at h1
  refine ⟨⟨by omega, by omega⟩, ?_, ?_⟩
  · rw [Int.add_comm, Int.add_mul_ediv_right _ _ (by omega), Int.ediv_eq_zero_of_lt y0 y1]; omega
  · rw [Int.add_comm, Int.add_mul_emod_self_right, Int.emod_eq_of_lt y0 y1]
theorem cd_xy {h : Sh} (hb : ShB h) {x y : Int} (x0 : 0 ≤ x) (x1 : x < h.1.1) (y0 : 0 ≤ y) (y1 : y < h.1.2) : cdI h (x * h.1.2 + y) = 10 * x + y := by
  obtain ⟨-, e1, e2⟩ := xy_in hb x0 x1 y0 y1
  unfold cdI
  rw [e1, e2]
theorem i_xy {h : Sh} (hb : ShB h) {i : Int} (hi : inI h i) : (0 ≤ i / h.1.2 ∧ i / h.1.2 < h.1.1) ∧ (0 ≤ i % h.1.2 ∧ i % h.1.2 < h.1.2) ∧ (i / h.1.2) * h.1.2 + i % h.1.2 = i := by
  obtain ⟨⟨b1, b2⟩, b3, b4⟩ := hb
  refine ⟨⟨Int.ediv_nonneg hi.1 (by omega), Int.ediv_lt_of_lt_mul (by omega) hi.2⟩, ⟨Int.emod_nonneg _ (by omega), Int.emod_lt_of_pos _ (by omega)⟩, ?_⟩
  have := Int.mul_ediv_add_emod i h.1.2
  rw [Int.mul_comm] at this
  exact this
theorem cd_in {h : Sh} (hb : ShB h) {i : Int} (hi : inI h i) : inS h (cdI h i) ∧ cdI h i / 10 = i / h.1.2 ∧ cdI h i % 10 = i % h.1.2 := by
  obtain ⟨q1, q2, -⟩ := i_xy hb hi
  obtain ⟨⟨b1, b2⟩, b3, b4⟩ := hb
  unfold cdI
  generalize i / h.1.2 = A at *
  generalize i % h.1.2 = B at *
  exact ⟨⟨⟨by omega, by omega⟩, by omega, by omega⟩, by omega, by omega⟩
theorem ix_in {h : Sh} (hb : ShB h) {k : Int} (hk : inS h k) : inI h (ixI h k) ∧ cdI h (ixI h k) = k := by
  have h1 := hk.1
  have h2 := hk.2.1
  have h3 := hk.2.2
  refine ⟨(xy_in hb (by omega) h2 (by omega) h3).1, ?_⟩
  unfold ixI
  rw [cd_xy hb (by omega) h2 (by omega) h3]
  omega
theorem ix_cd {h : Sh} (hb : ShB h) {i : Int} (hi : inI h i) : ixI h (cdI h i) = i := by
  obtain ⟨-, e1, e2⟩ := cd_in hb hi
  unfold ixI
  rw [e1, e2]
  exact (i_xy hb hi).2.2
def LdI (h : Sh) (i j : Int) : Prop := (inI h i ∧ inI h j) ∧ Ld h (cdI h i) (cdI h j)
theorem rch_m {R R' : Int → Int → Prop} {f : Int → Int} (H : ∀ a c, R a c → R' (f a) (f c)) {a c : Int} (h : rch R a c) : rch R' (f a) (f c) := h (fun x y => rch R' (f x) (f y)) (fun x y r => rch_1 (H x y r)) (fun _ _ _ a c => rch_t a c)
theorem rch_I {h : Sh} (hb : ShB h) {i : Int} (hi : inI h i) : rch (Ld h) (cdI h i) (cdI h i) ↔ rch (LdI h) i i := by
  constructor
  · intro w
    have := rch_m (R' := LdI h) (f := ixI h) (fun a c r => by
      obtain ⟨r1, r2⟩ := Ld_in hb r
      obtain ⟨q1, q2⟩ := ix_in hb r1
      obtain ⟨q3, q4⟩ := ix_in hb r2
      exact ⟨⟨q1, q3⟩, by rw [q2, q4]; exact r⟩) w
    rw [ix_cd hb hi] at this
    exact this
  · intro w
    exact rch_m (f := cdI h) (fun a c r => r.2) w
theorem aln_17 {ps : List Prt} (W : WfV ps) {i : Nat} (hi : i < ps.length) (c : (ps.getD i pd0).1 = 17) : ¬ alnP ps i := by
  intro w
  have hj : i + 1 < ps.length := by
    by_cases q : i + 1 < ps.length
    · exact q
    · have := op_out q
      unfold alnP at w
      omega
  have wa := WfP_a (W.2 (i + 1) hj)
  have n1 : (ps.getD (i + 1) pd0).2.1 = 1 := by
    unfold alnP at w
    exact wa.2.2.2.2.2.2.2.1 (by omega) (by omega)
  have ch := ((W.1.1 (i + 1) hj).2 0 (by omega)).2 w
  rw [n1] at ch
  have ch : (ps.getD ((((i + 1 : Nat) : Int) - 1)).toNat pd0).1 = 15 ∨ (ps.getD ((((i + 1 : Nat) : Int) - 1)).toNat pd0).1 = 16 := ch
  rw [show (((i + 1 : Nat) : Int) - 1).toNat = i by omega] at ch
  omega
/-- part p leads to the cells of what it finds -/
theorem Ld_ar {h : Sh} {ps : List Prt} (W : WfV ps) {p : Nat} (hp : p < ps.length) (hv : (ps.getD p pd0).2.2.2.2.2 = -1) (hop : (ps.getD p pd0).1 = 16 ∨ (ps.getD p pd0).1 = 17) (ha : ¬ alnP ps p) (k : Int) : LdP1 h ps p k ↔ ∃ t c l r, arP h (ps.getD p pd0) = some (t, c, l, r) ∧ ∃ x y, (t ≤ x ∧ x ≤ c) ∧ (l ≤ y ∧ y ≤ r) ∧ k = 10 * x + y := by
  constructor
  · rintro ⟨-, w⟩
    rcases w with ⟨c16, -, r, c, e, ek⟩ | ⟨-, w⟩
    · exact ⟨r, r, c, c, (ar_sp (W.2 p hp) c16).2 r c e, r, c, ⟨Int.le_refl _, Int.le_refl _⟩, ⟨Int.le_refl _, Int.le_refl _⟩, ek⟩
    · exact w
  · rintro ⟨t, c, l, r, e, x, y, hx, hy, ek⟩
    refine ⟨hv, ?_⟩
    rcases hop with c16 | c17
    · left
      refine ⟨c16, ha, ?_⟩
      obtain ⟨a1, a2⟩ := ar_sp (h := h) (W.2 p hp) c16
      match hsp : spP h (ps.getD p pd0) with
      | none => rw [a1 hsp] at e; cases e
      | some (r', c') =>
        rw [a2 r' c' hsp] at e
        injection e with e
        injection e with x1 e
        injection e with x2 e
        injection e with x3 x4
        exact ⟨r', c', rfl, by omega⟩
    · exact Or.inr ⟨c17, t, c, l, r, e, x, y, hx, hy, ek⟩
def wFl : WR := [(4, some 9), (4, some 11), (4, some 12), (4, some 13), (4, some 14), (4, some 15), (25, none)]
section Fl
variable {z y : Z} {b sv sb : Nat → Nat} {J : Nat → Prop} {sh : Nat} {h : Sh} {ps : List Prt} {pa : Nat}
theorem FdC_25 (c : CWz z b) (f : FrZ (WB b [(25, none)]) z y) {t q l r : Int} (F : FdC z b sh t q l r) : FdC y b sh t q l r := by
  obtain ⟨d1, d2, d3, d4, d5⟩ := F
  have k4 := kbz c (k := 4) (by decide)
  have n : ∀ i, ¬ WB b [(25, none)] (b 4) i := fun i => wl_b c (R := [(4, none)]) (by decide) (by decide) (wHas_a (by decide))
  exact ⟨(f.2 (b 4) 11 k4 (n 11)).2.2.trans d1, (f.2 (b 4) 12 k4 (n 12)).1.trans d2, (f.2 (b 4) 13 k4 (n 13)).1.trans d3, (f.2 (b 4) 14 k4 (n 14)).1.trans d4, (f.2 (b 4) 15 k4 (n 15)).1.trans d5⟩
/-- one row of a place -/
theorem k9_l117 {i x2 x t q l r : Int} {Q : (Int × Z) ⊕ Z → Prop} (K : WkC z b J sv sb) (h8 : zO z (b 4) 8 = some sh) (hs : ShC z J sh h) (i0 : 0 ≤ i) (i1 : i < 320) (F : FdC z b sh t q l r) (x0 : 0 ≤ x) (x1 : x < h.1.1) (l0 : 0 ≤ l) (l1 : l ≤ r) (r1 : r < h.1.2) (p : ∀ y, FrZ (WB b [(25, none)]) z y → (∀ i' j, 0 ≤ j → j < 320 → (BtR (zG y (b 25)) i' j ↔ (BtR (zG z (b 25)) i' j ∨ (i' = i ∧ ∃ yc, (l ≤ yc ∧ yc ≤ r) ∧ j = x * h.1.2 + yc)))) → Q (.inl (x + 1 + 1, y))) : F_X9_findLeads_117 (b 4) i x2 (x + 1) (l + 1) z Q := by
  have hb := ShC_b hs
  have cb := cnt_b hb
  unfold F_X9_findLeads_117
  refine lp_I (fun s => (l + 1 ≤ s.1 ∧ s.1 ≤ r + 2) ∧ FrZ (WB b [(25, none)]) z s.2 ∧ ∀ i' j, 0 ≤ j → j < 320 → (BtR (zG s.2 (b 25)) i' j ↔ (BtR (zG z (b 25)) i' j ∨ (i' = i ∧ ∃ yc, (l ≤ yc ∧ yc < s.1 - 1) ∧ j = x * h.1.2 + yc)))) (fun s => (r + 2 - s.1).toNat) ?_ (l + 1, z) (And.intro ⟨Int.le_refl _, by show l + 1 ≤ r + 2; omega⟩ (And.intro FrZ_rf (fun i' j _ _ => ⟨fun w => Or.inl w, fun w => w.elim id (fun ⟨_, yc, hy, _⟩ => by have a : l ≤ yc := hy.1; have c : yc < l + 1 - 1 := hy.2; omega)⟩)))
  rintro G ⟨s, w⟩ ⟨⟨s0, s1⟩, f, e⟩ ih
  simp only at s0 s1 f e
  have Kw := WkC_L K (L := [(25, none)]) (by decide) (by decide) f
  have hsw := ShC_L K.1 K.2.1 f hs
  have Fw := FdC_25 K.1 f F
  have h8w : zO w (b 4) 8 = some sh := (f.2 (b 4) 8 (kbz K.1 (by decide)) (wl_b K.1 (R := [(4, none)]) (by decide) (by decide) (wHas_a (by decide)))).2.2.trans h8
  show L_X9_findLeads_117 (b 4) i x2 (x + 1) s w _
  unfold L_X9_findLeads_117
  refine ⟨cK Kw.1 4 rfl rfl, ?_⟩
  rw [Fw.2.2.2.2]
  by_cases cs : r + 1 < s
  · rw [if_pos cs]
    show Q (.inl (w32 (x + 1 + 1), w))
    have b1 := hb.1
    rw [w32e (x := x + 1 + 1) (by omega) (by omega)]
    refine p w f (fun i' j j0 j1 => ?_)
    rw [e i' j j0 j1]
    constructor
    · rintro (w | ⟨w1, yc, w2, w3⟩)
      · exact Or.inl w
      · exact Or.inr ⟨w1, yc, ⟨w2.1, by omega⟩, w3⟩
    · rintro (w | ⟨w1, yc, w2, w3⟩)
      · exact Or.inl w
      · exact Or.inr ⟨w1, yc, ⟨w2.1, by omega⟩, w3⟩
  rw [if_neg cs]
  obtain ⟨ra, ca, xa, Sp, -⟩ := hsw
  obtain ⟨p1, p2, p3, p4, p5, p6, p7, p8, p9, p10, p11, p12⟩ := Sp
  obtain ⟨yc, rfl⟩ : ∃ yc, s = yc + 1 := ⟨s - 1, by omega⟩
  have xy := xy_in hb (x := x) (y := yc) x0 x1 (by omega) (by omega)
  have xr : 0 ≤ x * h.1.2 := Int.mul_nonneg x0 (by omega)
  refine ⟨sh, h8w, p1, ca, p3, p6, b 25, cO Kw.1 4 3 25 (by decide), cK Kw.1 25 rfl rfl, ?_⟩
  have n25 : zN w (b 25) = 1600 := cN Kw.1 25 rfl rfl
  obtain ⟨⟨m0, m1⟩, -⟩ := xy
  rw [p9, w32e (x := x + 1 - 1) (by omega) (by omega), show x + 1 - 1 = x by omega]
  generalize hm : x * h.1.2 = m at *
  rw [w32e (x := m) (by omega) (by omega), w32e (x := m + (yc + 1)) (by omega) (by omega), w32e (x := m + (yc + 1) - 1) (by omega) (by omega), show m + (yc + 1) - 1 = m + yc by omega, tdivE m0, tmodE m0, Int.mul_comm i 5, w32e (x := 5 * i) (by omega) (by omega), w32e (x := (m + yc) / 64) (by omega) (by omega), w32e (x := (m + yc) % 64) (by omega) (by omega), w32e (x := 5 * i + (m + yc) / 64) (by omega) (by omega), w32e (x := yc + 1 + 1) (by omega) (by omega)]
  refine ⟨by omega, by omega, fun v hv => ?_⟩
  subst hv
  refine ih (yc + 1 + 1, _) (And.intro ⟨by show l + 1 ≤ yc + 1 + 1; omega, by show yc + 1 + 1 ≤ r + 2; omega⟩ (And.intro (FrZ_wG f (Or.inl (WB_a (by decide) (by decide)))) (fun i' j j0 j1 => ?_))) (by show (r + 2 - (yc + 1 + 1)).toNat < (r + 2 - (yc + 1)).toNat; omega)
  show BtR (zG (wG w (b 25) _ _) (b 25)) i' j ↔ (BtR (zG z (b 25)) i' j ∨ (i' = i ∧ ∃ y', (l ≤ y' ∧ y' < yc + 1 + 1 - 1) ∧ j = m + y'))
  rw [BtR_set (g := zG w (b 25)) (k := i) (j := m + yc) m0 (by omega) j0 j1 (by rw [zG_wG, if_pos ⟨rfl, rfl⟩]) (fun k hk => by rw [zG_wG, if_neg (fun w => hk w.2)]), e i' j j0 j1]
  constructor
  · rintro ((w | ⟨w1, y', w2, w3⟩) | ⟨w1, w2⟩)
    · exact Or.inl w
    · exact Or.inr ⟨w1, y', ⟨w2.1, by omega⟩, w3⟩
    · exact Or.inr ⟨w1, yc, ⟨by omega, by omega⟩, w2⟩
  · rintro (w | ⟨w1, y', w2, w3⟩)
    · exact Or.inl (Or.inl w)
    · by_cases cy : y' = yc
      · exact Or.inr ⟨w1, by rw [cy] at w3; exact w3⟩
      · exact Or.inl (Or.inr ⟨w1, y', ⟨w2.1, by omega⟩, w3⟩)
theorem k9_l102 {i x2 t q l r : Int} {Q : (Int × Z) ⊕ Z → Prop} (K : WkC z b J sv sb) (h8 : zO z (b 4) 8 = some sh) (hs : ShC z J sh h) (i0 : 0 ≤ i) (i1 : i < 320) (F : FdC z b sh t q l r) (ab : (0 ≤ t ∧ t ≤ q ∧ q < h.1.1 ∧ q < 32) ∧ 0 ≤ l ∧ l ≤ r ∧ r < h.1.2 ∧ r < 10) (p : ∀ y, FrZ (WB b [(25, none)]) z y → (∀ i' j, 0 ≤ j → j < 320 → (BtR (zG y (b 25)) i' j ↔ (BtR (zG z (b 25)) i' j ∨ (i' = i ∧ ∃ x yc, (t ≤ x ∧ x ≤ q) ∧ (l ≤ yc ∧ yc ≤ r) ∧ j = x * h.1.2 + yc)))) → F_X9_findLeads_182 (b 4) i x2 y Q) : F_X9_findLeads_102 (b 4) i x2 (t + 1) z Q := by
  unfold F_X9_findLeads_102
  refine lp_I (fun s => (t + 1 ≤ s.1 ∧ s.1 ≤ q + 2) ∧ FrZ (WB b [(25, none)]) z s.2 ∧ ∀ i' j, 0 ≤ j → j < 320 → (BtR (zG s.2 (b 25)) i' j ↔ (BtR (zG z (b 25)) i' j ∨ (i' = i ∧ ∃ x yc, (t ≤ x ∧ x < s.1 - 1) ∧ (l ≤ yc ∧ yc ≤ r) ∧ j = x * h.1.2 + yc)))) (fun s => (q + 2 - s.1).toNat) ?_ (t + 1, z) (And.intro ⟨Int.le_refl _, by show t + 1 ≤ q + 2; omega⟩ (And.intro FrZ_rf (fun i' j _ _ => ⟨fun w => Or.inl w, fun w => w.elim id (fun ⟨_, x, _, hy, _⟩ => by have a : t ≤ x := hy.1; have c : x < t + 1 - 1 := hy.2; omega)⟩)))
  rintro G ⟨s, w⟩ ⟨⟨s0, s1⟩, f, e⟩ ih
  simp only at s0 s1 f e
  have Kw := WkC_L K (L := [(25, none)]) (by decide) (by decide) f
  have hsw := ShC_L K.1 K.2.1 f hs
  have Fw := FdC_25 K.1 f F
  have h8w : zO w (b 4) 8 = some sh := (f.2 (b 4) 8 (kbz K.1 (by decide)) (wl_b K.1 (R := [(4, none)]) (by decide) (by decide) (wHas_a (by decide)))).2.2.trans h8
  show L_X9_findLeads_102 (b 4) i x2 s w _
  unfold L_X9_findLeads_102
  refine ⟨cK Kw.1 4 rfl rfl, ?_⟩
  rw [Fw.2.2.1, Fw.2.2.2.1]
  by_cases cs : q + 1 < s
  · rw [if_pos cs]
    refine p w f (fun i' j j0 j1 => ?_)
    rw [e i' j j0 j1]
    constructor
    · rintro (w | ⟨w1, x, yc, w2, w3⟩)
      · exact Or.inl w
      · exact Or.inr ⟨w1, x, yc, ⟨w2.1, by omega⟩, w3⟩
    · rintro (w | ⟨w1, x, yc, w2, w3⟩)
      · exact Or.inl w
      · exact Or.inr ⟨w1, x, yc, ⟨w2.1, by omega⟩, w3⟩
  rw [if_neg cs]
  obtain ⟨x, rfl⟩ : ∃ x, s = x + 1 := ⟨s - 1, by omega⟩
  refine k9_l117 Kw h8w hsw i0 i1 Fw (by omega) (by omega) (by omega) (by omega) (by omega) (fun v fv hv => ?_)
  refine ih (x + 1 + 1, v) (And.intro ⟨by show t + 1 ≤ x + 1 + 1; omega, by show x + 1 + 1 ≤ q + 2; omega⟩ (And.intro (FrZ_tr f fv) (fun i' j j0 j1 => ?_))) (by show (q + 2 - (x + 1 + 1)).toNat < (q + 2 - (x + 1)).toNat; omega)
  show BtR (zG v (b 25)) i' j ↔ (BtR (zG z (b 25)) i' j ∨ (i' = i ∧ ∃ x' yc, (t ≤ x' ∧ x' < x + 1 + 1 - 1) ∧ (l ≤ yc ∧ yc ≤ r) ∧ j = x' * h.1.2 + yc))
  rw [hv i' j j0 j1, e i' j j0 j1]
  constructor
  · rintro ((w | ⟨w1, x', yc, w2, w3⟩) | ⟨w1, yc, w2, w3⟩)
    · exact Or.inl w
    · exact Or.inr ⟨w1, x', yc, ⟨w2.1, by omega⟩, w3⟩
    · exact Or.inr ⟨w1, x, yc, ⟨by omega, by omega⟩, w2, w3⟩
  · rintro (w | ⟨w1, x', yc, w2, w3, w4⟩)
    · exact Or.inl (Or.inl w)
    · by_cases cy : x' = x
      · exact Or.inr ⟨w1, yc, w3, by rw [cy] at w4; exact w4⟩
      · exact Or.inl (Or.inr ⟨w1, x', yc, ⟨w2.1, by omega⟩, w3, w4⟩)
theorem k9_alone2 {i : Nat} {P : Int → Prop} (k4 : zK z (b 4) = 10) (h9 : zO z (b 4) 9 = some pa) (F : FoC z J pa ps) (n60 : ps.length ≤ 60) (hi : i < ps.length) (hy : alnP ps i → P 1) (hn : ¬ alnP ps i → P 0) : F_X9_standsAlone (b 4) (i : Int) z P := by
  obtain ⟨f1, f2, f3, f4⟩ := F
  unfold alnP at hy hn
  unfold F_X9_standsAlone F_X9_standsAlone_43 F_X9_standsAlone_47 F_X9_standsAlone_48
  refine ⟨k4, pa, h9, f2, ?_⟩
  rw [w32e (x := (i : Int) + 1) (by omega) (by omega), f3]
  by_cases c : (ps.length : Int) ≤ (i : Int) + 1
  · rw [if_pos c]
    have := op_out (ps := ps) (j := i + 1) (by omega)
    exact ⟨Or.inl rfl, hn (by omega)⟩
  · rw [if_neg c]
    obtain ⟨q, q1, q2⟩ := f4 (i + 1) (by omega)
    refine ⟨by omega, by omega, q, ?_, q2.2.1, ?_⟩
    · rw [show (i : Int) + 1 = ((i + 1 : Nat) : Int) by omega]; exact q1
    · rw [q2.2.2.1]
      by_cases c1 : (ps.getD (i + 1) pd0).1 = 29
      · rw [if_pos c1]; exact ⟨Or.inr rfl, hy (Or.inl c1)⟩
      · rw [if_neg c1]
        by_cases c2 : (ps.getD (i + 1) pd0).1 = 30
        · rw [if_pos c2]; exact ⟨Or.inr rfl, hy (Or.inr c2)⟩
        · rw [if_neg c2]; exact ⟨Or.inl rfl, hn (fun w => w.elim c1 c2)⟩
theorem FoC_L (r : Frz z b J) {L : WR} (f : FrZ (WB b L) z y) (H : FoC z J pa ps) : FoC y J pa ps := by
  obtain ⟨h1, h2, h3, h4⟩ := H
  have kp : zK z pa ≠ 0 := by rw [h2]; decide
  refine ⟨h1, (f.1 pa kp).1.trans h2, (f.1 pa kp).2.trans h3, fun i hi => ?_⟩
  obtain ⟨q, q1, q2⟩ := h4 i hi
  exact ⟨q, (f.2 pa i kp (wl_J r h1 i)).2.2.trans q1, PrtC_fr f (fun a i ha => wl_J r ha i) q2⟩
/-- row i has what the parts below s lead to -/
def LdB (h : Sh) (ps : List Prt) (i : Int) (g0 g : Int → Int) (s : Int) : Prop := ∀ i' j, 0 ≤ j → j < 320 → (BtR g i' j ↔ ((i' = i ∧ ∃ q : Nat, (q : Int) < s ∧ inI h j ∧ LdP1 h ps q (cdI h j)) ∨ (i' ≠ i ∧ BtR g0 i' j)))
theorem LdB_s {i : Int} {g0 g g' : Int → Int} {s : Nat} (B : LdB h ps i g0 g s) (H : ∀ i' j, 0 ≤ j → j < 320 → (BtR g' i' j ↔ (BtR g i' j ∨ (i' = i ∧ inI h j ∧ LdP1 h ps s (cdI h j))))) : LdB h ps i g0 g' ((s : Int) + 1) := by
  intro i' j j0 j1
  rw [H i' j j0 j1, B i' j j0 j1]
  constructor
  · rintro ((⟨w1, q, w2, w3⟩ | w) | ⟨w1, w2⟩)
    · exact Or.inl ⟨w1, q, by omega, w3⟩
    · exact Or.inr w
    · exact Or.inl ⟨w1, s, by omega, w2⟩
  · rintro (⟨w1, q, w2, w3⟩ | w)
    · by_cases c : q = s
      · rw [c] at w3; exact Or.inr ⟨w1, w3⟩
      · exact Or.inl (Or.inl ⟨w1, q, by omega, w3⟩)
    · exact Or.inl (Or.inr w)
theorem n4_9 (c : CWz z b) {L : WR} (h : wDis L [(4, some 9)] = true) : ¬ WB b L (b 4) 9 := wl_b c h (by decide) (wHas_i (by decide))
theorem k9_l28 {i : Int} {g0 : Int → Int} {P : Z → Prop} (K : WkC z b J sv sb) (h8 : zO z (b 4) 8 = some sh) (hs : ShC z J sh h) (hi : inI h i) (F : FoC z J pa ps) (W : WfV ps) (n60 : ps.length ≤ 60) (hv : ∀ j : Nat, j < ps.length → -1 ≤ (ps.getD j pd0).2.2.2.2.2) (h9 : zO z (b 4) 9 = some pa) (B : LdB h ps i g0 (zG z (b 25)) 0) (p : ∀ y, FrZ (WB b wFl) z y → LdB h ps i g0 (zG y (b 25)) ps.length → P y) : F_X9_findLeads_28 (b 4) i 0 z P := by
  have hb := ShC_b hs
  have cb := cnt_b hb
  have hi1 := hi.1
  have hi2 := hi.2
  unfold F_X9_findLeads_28
  refine lp_I (fun q => ∃ s w, q = (s, w) ∧ (0 ≤ s ∧ s ≤ (ps.length : Int)) ∧ FrZ (WB b wFl) z w ∧ zO w (b 4) 9 = some pa ∧ LdB h ps i g0 (zG w (b 25)) s) (fun s => ((ps.length : Int) - s.1).toNat) ?_ (0, z) ⟨0, z, rfl, ⟨by omega, by omega⟩, FrZ_rf, h9, B⟩
  rintro G _ ⟨s, w, rfl, ⟨s0, s1⟩, f, h9w, E⟩ ih
  have Kw := WkC_L K (L := wFl) (by decide) (by decide) f
  have hsw := ShC_L K.1 K.2.1 f hs
  have Fw := FoC_L K.2.1 f F
  have h8w : zO w (b 4) 8 = some sh := (f.2 (b 4) 8 (kbz K.1 (by decide)) (wl_b K.1 (R := [(4, some 8)]) (by decide) (by decide) (wHas_i (by decide)))).2.2.trans h8
  have k4w : zK w (b 4) = 10 := cK Kw.1 4 rfl rfl
  show L_X9_findLeads_28 (b 4) i s w _
  unfold L_X9_findLeads_28
  obtain ⟨f1, f2, f3, f4⟩ := id Fw
  refine ⟨k4w, pa, h9w, f2, ?_⟩
  rw [f3]
  by_cases cs : (ps.length : Int) ≤ s
  · rw [if_pos cs]
    have es : s = (ps.length : Int) := by omega
    rw [es] at E
    exact p w f E
  rw [if_neg cs]
  obtain ⟨q, rfl⟩ : ∃ q : Nat, s = q := ⟨s.toNat, by omega⟩
  have hq : q < ps.length := by omega
  obtain ⟨qa, o1, o2⟩ := f4 q hq
  have vq := hv q hq
  refine ⟨by omega, by omega, qa, o1, o2.2.1, ?_⟩
  -- the next part
  have next : ∀ v, FrZ (WB b wFl) w v → zO v (b 4) 9 = some pa → (∀ i' j, 0 ≤ j → j < 320 → (BtR (zG v (b 25)) i' j ↔ (BtR (zG w (b 25)) i' j ∨ (i' = i ∧ inI h j ∧ LdP1 h ps q (cdI h j))))) → G ((q : Int) + 1, v) := fun v fv h9v hv => by
    exact ih ((q : Int) + 1, v) ⟨(q : Int) + 1, v, rfl, ⟨by omega, by omega⟩, FrZ_tr f fv, h9v, LdB_s E hv⟩ (by show (_ - ((q : Int) + 1)).toNat < (_ - (q : Int)).toNat; omega)
  have same : (¬ ∃ k, LdP1 h ps q k) → G ((q : Int) + 1, w) := fun hn => next w FrZ_rf h9w (fun i' j _ _ => ⟨fun a => Or.inl a, fun a => a.elim id (fun a => absurd ⟨_, a.2.2⟩ hn)⟩)
  refine o_isPlace o2 ?_
  unfold F_X9_findLeads_74 F_X9_findLeads_75 F_X9_findLeads_182
  rw [w32e (x := (q : Int) + 1) (by omega) (by omega)]
  by_cases cp : (ps.getD q pd0).1 = 16 ∨ (ps.getD q pd0).1 = 17
  · rw [tb, if_pos cp, if_neg (by decide), o2.2.2.2.2.2.2.2.2.2.2]
    by_cases cv : (ps.getD q pd0).2.2.2.2.2 = -1
    · rw [if_pos cv]
      refine k9_alone2 k4w h9w Fw n60 hq (fun ha => ?_) (fun ha => ?_)
      · rw [if_neg (by decide), if_pos rfl]
        refine same ?_
        rintro ⟨k, -, w | w⟩
        · exact w.2.1 ha
        · exact aln_17 W hq w.1 ha
      · rw [if_pos rfl, if_neg (by decide)]
        refine ⟨k4w, pa, h9w, f2, by omega, by omega, ?_⟩
        rw [o1]
        have la := Ld_ar (h := h) W hq cv cp ha
        refine k9_finds Kw o2 (by unfold ShV; rw [if_pos (by omega)]; exact h8w) hsw (fun en u fu => ?_) (fun t c l r en u fu F' => ?_)
        · rw [if_pos rfl]
          have h9u : zO u (b 4) 9 = some pa := (fu.2 (b 4) 9 (by rw [k4w]; decide) (n4_9 Kw.1 (by decide))).2.2.trans h9w
          refine next u (FrZ_mono fu (fun _ _ _ a => WB_up (by decide) a)) h9u (fun i' j _ _ => ?_)
          have eg : zG u (b 25) = zG w (b 25) := funext (fun k => (fu.2 (b 25) k (kbz Kw.1 (by decide)) (wl_b Kw.1 (R := [(25, none)]) (by decide) (by decide) (wHas_a (by decide)))).2.1)
          rw [eg]
          refine ⟨fun a => Or.inl a, fun a => a.elim id (fun a => ?_)⟩
          obtain ⟨t, c, l, r, e2, -⟩ := (la _).mp a.2.2
          rw [en] at e2; cases e2
        · rw [if_neg (by decide)]
          have Ku := WkC_L Kw (L := wFi) (by decide) (by decide) fu
          have h8u : zO u (b 4) 8 = some sh := (fu.2 (b 4) 8 (by rw [k4w]; decide) (wl_b Kw.1 (R := [(4, some 8)]) (by decide) (by decide) (wHas_i (by decide)))).2.2.trans h8w
          have h9u : zO u (b 4) 9 = some pa := (fu.2 (b 4) 9 (by rw [k4w]; decide) (n4_9 Kw.1 (by decide))).2.2.trans h9w
          have hsu := ShC_L Kw.1 Kw.2.1 fu hsw
          have ab := arP_b hb en
          refine ⟨cK Ku.1 4 rfl rfl, ?_⟩
          rw [F'.2.1]
          refine k9_l102 Ku h8u hsu hi1 (by omega) F' ab (fun v fv hv => ?_)
          unfold F_X9_findLeads_182
          rw [w32e (x := (q : Int) + 1) (by omega) (by omega)]
          have h9v : zO v (b 4) 9 = some pa := (fv.2 (b 4) 9 (kbz Ku.1 (by decide)) (n4_9 Ku.1 (by decide))).2.2.trans h9u
          refine next v (FrZ_tr (FrZ_mono fu (fun _ _ _ a => WB_up (by decide) a)) (FrZ_mono fv (fun _ _ _ a => WB_up (by decide) a))) h9v (fun i' j j0 j1 => ?_)
          have eg : zG u (b 25) = zG w (b 25) := funext (fun k => (fu.2 (b 25) k (kbz Kw.1 (by decide)) (wl_b Kw.1 (R := [(25, none)]) (by decide) (by decide) (wHas_a (by decide)))).2.1)
          rw [hv i' j j0 j1, eg]
          constructor
          · rintro (a | ⟨a1, x, yc, a2, a3, a4⟩)
            · exact Or.inl a
            · have xi := (xy_in hb (x := x) (y := yc) (by omega) (by omega) (by omega) (by omega)).1
              have cx := cd_xy hb (x := x) (y := yc) (by omega) (by omega) (by omega) (by omega)
              exact Or.inr ⟨a1, by rw [a4]; exact xi, (la _).mpr ⟨t, c, l, r, en, x, yc, a2, a3, by rw [a4]; exact cx⟩⟩
          · rintro (a | ⟨a1, a2, a3⟩)
            · exact Or.inl a
            · obtain ⟨t', c', l', r', e2, x, yc, b1, b2, b3⟩ := (la _).mp a3
              rw [en] at e2
              injection e2 with e2
              injection e2 with y1 e2
              injection e2 with y2 e2
              injection e2 with y3 y4
              obtain ⟨z1, z2, z3⟩ := i_xy hb a2
              obtain ⟨-, z4, z5⟩ := cd_in hb a2
              rw [b3] at z4 z5
              refine Or.inr ⟨a1, x, yc, by omega, by omega, ?_⟩
              have x1 : j / h.1.2 = x := by rw [← z4]; omega
              have x2 : j % h.1.2 = yc := by rw [← z5]; omega
              rw [x1, x2] at z3
              exact z3.symm
    · rw [if_neg cv, if_pos rfl]
      refine same ?_
      rintro ⟨k, a, -⟩
      exact cv a
  · rw [tb, if_neg cp, if_pos rfl, if_pos rfl]
    refine same ?_
    rintro ⟨k, -, w | w⟩
    · exact cp (Or.inl w.1)
    · exact cp (Or.inr w.1)
theorem k9_leads {i : Int} {l : Lit} {P : Z → Prop} (K : WkC z b J sv sb) (h8 : zO z (b 4) 8 = some sh) (hs : ShC z J sh h) (hi : inI h i) (e : ctC h (cdI h i) = some (5, l, ps)) (W : WfV ps) (n1 : 1 ≤ ps.length) (n60 : ps.length ≤ 60) (hv : ∀ j : Nat, j < ps.length → -1 ≤ (ps.getD j pd0).2.2.2.2.2) (p : ∀ y, FrZ (WB b wFl) z y → LdB h ps i (zG z (b 25)) (zG y (b 25)) ps.length → P y) : F_X9_findLeads (b 4) i z P := by
  have hb := ShC_b hs
  have cb := cnt_b hb
  have hi1 := hi.1
  have hi2 := hi.2
  have n25 : zN z (b 25) = 1600 := cN K.1 25 rfl rfl
  unfold F_X9_findLeads
  rw [Int.mul_comm i 5, w32e (x := 5 * i) (by omega) (by omega), cO K.1 4 3 25 (by decide)]
  refine ⟨cK K.1 4 rfl rfl, k9_clear K.1 (by decide) (cK K.1 25 rfl rfl) (by omega) (by omega) (by omega) (fun z1 f1 e1 => ?_)⟩
  have K1 := WkC_L K (L := [(25, none)]) (by decide) (by decide) f1
  have hs1 := ShC_L K.1 K.2.1 f1 hs
  have h81 : zO z1 (b 4) 8 = some sh := (f1.2 (b 4) 8 (kbz K.1 (by decide)) (wl_b K.1 (R := [(4, none)]) (by decide) (by decide) (wHas_a (by decide)))).2.2.trans h8
  have hs1' := hs1
  obtain ⟨ra, ca, xa, Sp, -, -, -, -, -, hc⟩ := hs1'
  obtain ⟨p1, p2, p3, p4, p5, p6, p7, p8, p9, p10, p11, p12⟩ := Sp
  obtain ⟨x1, x2, x3⟩ := i_xy hb hi
  obtain ⟨q1, q2, q3⟩ := cd_in hb hi
  have hct := hc (i / h.1.2) (i % h.1.2) x1.1 x1.2 x2.1 x2.2
  rw [x3] at hct
  have ec : h.2.2.2 (i / h.1.2) (i % h.1.2) = some (5, l, ps) := by
    rw [← q2, ← q3]; exact e
  rw [ec] at hct
  unfold ContC at hct
  simp only at hct
  obtain ⟨a, pa, c1, c2, c3, c4, c5, c6, c7, c8, c9, -⟩ := hct
  refine ⟨cK K1.1 4 rfl rfl, sh, h81, p1, xa, p4, p7, hi1, by rw [p10]; exact hi2, a, c1, c3, fun z2 e2 => ?_⟩
  rw [c5] at e2
  have f2 : FrZ (WB b [(4, some 9)]) z1 z2 := by rw [e2]; exact FrZ_wO FrZ_rf (Or.inl (WB_i (by decide) (by decide)))
  have F1 : FoC z1 J pa ps := ⟨c6 (by omega), c7, c8, c9⟩
  have f02 : FrZ (WB b wFl) z z2 := FrZ_tr (FrZ_mono f1 (fun _ _ _ w => WB_up (by decide) w)) (FrZ_mono f2 (fun _ _ _ w => WB_up (by decide) w))
  have K2 := WkC_L K1 (L := [(4, some 9)]) (by decide) (by decide) f2
  have h82 : zO z2 (b 4) 8 = some sh := (f2.2 (b 4) 8 (kbz K1.1 (by decide)) (wl_b K1.1 (R := [(4, some 8)]) (by decide) (by decide) (wHas_i (by decide)))).2.2.trans h81
  have h92 : zO z2 (b 4) 9 = some pa := by rw [e2, zO_wO, if_pos ⟨rfl, rfl⟩]
  refine k9_l28 K2 h82 (ShC_L K1.1 K1.2.1 f2 hs1) hi (FoC_L K1.2.1 f2 F1) W n60 hv h92 (g0 := zG z (b 25)) (fun i' j j0 j1 => ?_) (fun y fy By => p y (FrZ_tr f02 fy) By)
  have eg : ∀ k, zG z2 (b 25) k = zG z1 (b 25) k := fun k => by rw [e2]; rfl
  unfold BtR
  rw [eg, e1]
  by_cases ci : i' = i
  · rw [if_pos (by omega), bit_0]
    exact ⟨fun w => (by cases w), fun w => w.elim (fun ⟨_, q, hq, _⟩ => by omega) (fun w => absurd ci w.1)⟩
  · rw [if_neg (by omega)]
    exact ⟨fun w => Or.inr ⟨ci, w⟩, fun w => w.elim (fun w => absurd w.1 ci) (fun w => w.2)⟩
end Fl
