/-! ===== the system: the order of the formulas ===== -/
def FoN (h : Sh) (i : Int) : Prop := FoI h i ∧ ¬ ciI h i
theorem FoN_b {h : Sh} (hb : ShB h) {i : Int} (f : FoN h i) : 0 ≤ i ∧ i < 320 ∧ i < h.1.1 * h.1.2 := by
  have := cnt_b hb
  have h1 := f.1.1.1
  have h2 := f.1.1.2
  omega
def OrdOk (h : Sh) (g : Int → Int) (op : Int → Prop) (n : Int) : Prop := (∀ m, 0 ≤ m → m < n → FoN h (g m) ∧ ¬ op (g m)) ∧ (∀ i, FoN h i → ¬ op i → ∃ m, (0 ≤ m ∧ m < n) ∧ g m = i) ∧ (∀ m j, 0 ≤ m → m < n → LdI h (g m) j → FoN h j → ∃ m', (0 ≤ m' ∧ m' < m) ∧ g m' = j) ∧ ∀ m m', 0 ≤ m → m < n → 0 ≤ m' → m' < n → g m = g m' → m = m'
theorem OrdOk_s {h : Sh} {g g' : Int → Int} {op op' : Int → Prop} {n x : Int} (n0 : 0 ≤ n) (H : OrdOk h g op n) (fx : FoN h x) (ox : op x) (hl : ∀ j, LdI h x j → FoN h j → ¬ op j) (e1 : g' n = x) (e2 : ∀ m, 0 ≤ m → m < n → g' m = g m) (e3 : ∀ j, FoN h j → (op' j ↔ (op j ∧ j ≠ x))) : OrdOk h g' op' (n + 1) := by
  obtain ⟨h1, h2, h3, h4⟩ := H
  refine ⟨fun m m0 m1 => ?_, fun i fi oi => ?_, fun m j m0 m1 r fj => ?_, fun m m' m0 m1 m0' m1' e => ?_⟩
  · by_cases c : m = n
    · rw [c, e1]; exact ⟨fx, fun w => ((e3 x fx).mp w).2 rfl⟩
    · rw [e2 m m0 (by omega)]
      obtain ⟨a1, a2⟩ := h1 m m0 (by omega)
      exact ⟨a1, fun w => a2 ((e3 _ a1).mp w).1⟩
  · by_cases c : i = x
    · exact ⟨n, ⟨n0, by omega⟩, by rw [e1, c]⟩
    · obtain ⟨m, hm, em⟩ := h2 i fi (fun w => oi ((e3 i fi).mpr ⟨w, c⟩))
      exact ⟨m, ⟨hm.1, by omega⟩, by rw [e2 m hm.1 hm.2]; exact em⟩
  · by_cases c : m = n
    · rw [c, e1] at r
      obtain ⟨m', hm, em⟩ := h2 j fj (hl j r fj)
      exact ⟨m', by omega, by rw [e2 m' hm.1 hm.2]; exact em⟩
    · rw [e2 m m0 (by omega)] at r
      obtain ⟨m', hm, em⟩ := h3 m j m0 (by omega) r fj
      exact ⟨m', hm, by rw [e2 m' hm.1 (by omega)]; exact em⟩
  · by_cases c : m = n
    · by_cases c' : m' = n
      · omega
      · rw [c, e1, e2 m' m0' (by omega)] at e
        have := (h1 m' m0' (by omega)).2
        rw [← e] at this
        exact absurd ox this
    · by_cases c' : m' = n
      · rw [c', e1, e2 m m0 (by omega)] at e
        have := (h1 m m0 (by omega)).2
        rw [e] at this
        exact absurd ox this
      · rw [e2 m m0 (by omega), e2 m' m0' (by omega)] at e
        exact h4 m m' m0 (by omega) m0' (by omega) e
/-- a way through open cells -/
def PaC (h : Sh) (wt : Int → Int) (op : Int → Prop) (d : Int) : Prop := (∀ i, 0 ≤ i → i < d → FoN h (wt i) ∧ op (wt i)) ∧ ∀ i, 0 ≤ i → i + 1 < d → LdI h (wt i) (wt (i + 1))
theorem path_len {h : Sh} (hb : ShB h) {wt : Int → Int} {op : Int → Prop} {d : Int} {N : Nat} (hN : N = 320) (P : PaC h wt op d) : d ≤ (cnQ op N : Int) := by
  by_cases c0 : d ≤ 0
  · omega
  have key : ∀ j : Nat, (j : Int) < d → cnQ (fun x => op x ∧ rch (LdI h) (wt j) x) N + j + 1 ≤ cnQ op N := by
    intro j
    induction j with
    | zero =>
      intro hj
      obtain ⟨f, o⟩ := P.1 0 (by omega) (by omega)
      have fb := FoN_b hb f
      have := cnQ_lt (p := fun x => op x ∧ rch (LdI h) (wt 0) x) (q := op) (k := (wt 0).toNat) (by rw [Int.toNat_of_nonneg fb.1]; exact fun w => f.2 ⟨f.1, w.2⟩) (by rw [Int.toNat_of_nonneg fb.1]; exact o) N (by omega) (fun x _ w => w.1)
      exact this
    | succ j ih =>
      intro hj
      have ih := ih (by omega)
      obtain ⟨f, o⟩ := P.1 ((j : Int) + 1) (by omega) (by omega)
      have fb := FoN_b hb f
      have r := P.2 j (by omega) (by omega)
      have := cnQ_lt (p := fun x => op x ∧ rch (LdI h) (wt ((j : Int) + 1)) x) (q := fun x => op x ∧ rch (LdI h) (wt j) x) (k := (wt ((j : Int) + 1)).toNat) (by rw [Int.toNat_of_nonneg fb.1]; exact fun w => f.2 ⟨f.1, w.2⟩) (by rw [Int.toNat_of_nonneg fb.1]; exact ⟨o, rch_1 r⟩) N (by omega) (fun x _ w => ⟨w.1, rch_t (rch_1 r) w.2⟩)
      have e : ((j + 1 : Nat) : Int) = (j : Int) + 1 := by omega
      rw [e]
      omega
  have := key (d - 1).toNat (by omega)
  omega
theorem cnQ_le_n (p : Int → Prop) : ∀ n : Nat, cnQ p n ≤ n
  | 0 => Nat.le_refl _
  | n + 1 => by
    have := cnQ_le_n p n
    rw [cnQ]
    by_cases c : p n
    · rw [cb_1 c]; show cnQ p n + 1 ≤ n + 1; omega
    · rw [cb_0 c]; show cnQ p n + 0 ≤ n + 1; omega
theorem cnQ_e {p q : Int → Prop} : ∀ n : Nat, (∀ x : Nat, x < n → (p x ↔ q x)) → cnQ p n = cnQ q n := fun n h => Nat.le_antisymm (cnQ_le n (fun x hx w => (h x hx).mp w)) (cnQ_le n (fun x hx w => (h x hx).mpr w))
theorem cnQ_1 {p q : Int → Prop} {k : Nat} : ∀ n : Nat, k < n → p k → (∀ x : Nat, x < n → (q x ↔ (p x ∧ x ≠ k))) → cnQ p n = cnQ q n + 1
  | 0, hn, _, _ => absurd hn (Nat.not_lt_zero _)
  | n + 1, hn, hk, hq => by
    rw [cnQ, cnQ]
    by_cases c : k = n
    · subst c
      have e : cnQ p k = cnQ q k := cnQ_e k (fun x hx => by rw [hq x (by omega)]; exact ⟨fun w => ⟨w, by omega⟩, fun w => w.1⟩)
      rw [e, cb_1 hk, cb_0 (fun w => ((hq k (by omega)).mp w).2 rfl)]
      show cnQ q k + 1 = cnQ q k + 0 + 1
      omega
    · have ih := cnQ_1 n (by omega) hk (fun x hx => hq x (by omega))
      have e : (cb (p n)).toNat = (cb (q n)).toNat := by
        by_cases d : p n
        · rw [cb_1 d, cb_1 ((hq n (by omega)).mpr ⟨d, by omega⟩)]
        · rw [cb_0 d, cb_0 (fun w => d ((hq n (by omega)).mp w).1)]
      rw [e]
      omega
def wOr : WR := [(27, none), (28, none), (29, none)]
section Or
variable {z : Z} {b : Nat → Nat} {h : Sh} {N : Nat}
theorem Lb_f {y : Z} (c : CWz z b) (f : FrZ (WB b wOr) z y) : zG y (b 25) = zG z (b 25) := funext (fun i => (f.2 (b 25) i (kbz c (by decide)) (wl_b c (R := [(25, none)]) (by decide) (by decide) (wHas_a (by decide)))).2.1)
/-- the cells below one cell -/
theorem k9_o33 {cnt cell n0 : Int} {Q : (Int × Int × Z) ⊕ (Int × Z) → Prop} (hN : N = 320) (c : CWz z b) (hb : ShB h) (B : LbC h (zG z (b 25))) (hop : ∀ i, 0 ≤ i → i < 320 → OpC z b i → FoN h i) (n00 : 0 ≤ n0) (hn : n0 + (cnQ (OpC z b) N : Int) ≤ 320) (O : OrdOk h (zI z (b 29)) (OpC z b) n0) (P0 : PaC h (zI z (b 28)) (OpC z b) 1) (p : ∀ y n, FrZ (WB b wOr) z y → (∀ i, OpC y b i → OpC z b i ∨ ¬ (0 ≤ i ∧ i < 320)) → ¬ OpC y b (zI z (b 28) 0) → 0 ≤ n → n + (cnQ (OpC y b) N : Int) ≤ 320 → OrdOk h (zI y (b 29)) (OpC y b) n → F_X9_putInOrder_133 (b 4) cnt n cell y Q) : F_X9_putInOrder_33 (b 4) cnt n0 cell 1 0 z Q := by
  unfold F_X9_putInOrder_33
  refine lp_I (fun q => ∃ n d t w, q = (n, d, t, w) ∧ (0 ≤ n ∧ 0 ≤ d ∧ t + 1 = d + 2 * (n - n0) ∧ n0 ≤ n) ∧ FrZ (WB b wOr) z w ∧ (∀ i, OpC w b i → OpC z b i ∨ ¬ (0 ≤ i ∧ i < 320)) ∧ (zI w (b 28) 0 = zI z (b 28) 0) ∧ (d = 0 → ¬ OpC w b (zI z (b 28) 0)) ∧ n + (cnQ (OpC w b) N : Int) = n0 + (cnQ (OpC z b) N : Int) ∧ PaC h (zI w (b 28)) (OpC w b) d ∧ OrdOk h (zI w (b 29)) (OpC w b) n) (fun q => (640 - q.2.2.1).toNat) ?_ (n0, 1, 0, z) ⟨n0, 1, 0, z, rfl, ⟨n00, by omega, by omega, by omega⟩, FrZ_rf, fun _ w => Or.inl w, rfl, fun w => by omega, rfl, P0, O⟩
  rintro G _ ⟨n, d, t, w, rfl, ⟨b1, b2, b3, b4⟩, f, s1, s28, s2, s3, Pw, Ow⟩ ih
  have cw : CWz w b := CWz_fr c (WB_L f) (by decide)
  have pl := path_len hb hN Pw
  have cz := cnQ_le_n (OpC z b) N
  have n28 : zN w (b 28) = 320 := cN cw 28 rfl rfl
  have n29 : zN w (b 29) = 320 := cN cw 29 rfl rfl
  have e25 := Lb_f c f
  show L_X9_putInOrder_33 (b 4) cnt n cell d t w _
  unfold L_X9_putInOrder_33
  by_cases cd : d ≤ 0
  · have d0 : d = 0 := by omega
    have fin := p w n f s1 (s2 d0) b1 (by omega) Ow
    rw [if_pos cd]
    by_cases ct : 640 ≤ t
    · rw [if_pos ct]; exact fin
    · rw [if_neg ct]; exact fin
  rw [if_neg (show ¬ 640 ≤ t by omega), if_neg cd, if_neg (show ¬ 320 ≤ n by omega)]
  rw [w32e (x := d - 1) (by omega) (by omega)]
  obtain ⟨ft, ot⟩ := Pw.1 (d - 1) (by omega) (by omega)
  have fb := FoN_b hb ft
  refine ⟨cK cw 4 rfl rfl, b 28, cO cw 4 6 28 (by decide), cK cw 28 rfl rfl, by omega, by omega, k9_first cw fb.1 fb.2.1 (fun j j0 j1 hr ho => ?_) (fun hno => ?_)⟩
  · rw [if_neg (by omega)]
    rw [e25] at hr
    have ld := (B _ j ft.1 j0 j1).mp hr
    have fj : FoN h j := by
      rcases s1 j ho with q | q
      · exact hop j j0 j1 q
      · exact absurd ⟨j0, j1⟩ q
    have P2 : PaC h (fun i => if i = d then j else zI w (b 28) i) (OpC w b) (d + 1) := by
      refine ⟨fun i i0 i1 => ?_, fun i i0 i1 => ?_⟩
      · show FoN h (if i = d then j else zI w (b 28) i) ∧ OpC w b (if i = d then j else zI w (b 28) i)
        by_cases ci : i = d
        · rw [if_pos ci]; exact ⟨fj, ho⟩
        · rw [if_neg ci]; exact Pw.1 i i0 (by omega)
      · show LdI h (if i = d then j else zI w (b 28) i) (if i + 1 = d then j else zI w (b 28) (i + 1))
        rw [if_neg (show ¬ i = d by omega)]
        by_cases ci : i + 1 = d
        · rw [if_pos ci, show i = d - 1 by omega]; exact ld
        · rw [if_neg ci]; exact Pw.2 i i0 (by omega)
    have pl2 := path_len hb hN P2
    have cw2 := cnQ_le_n (OpC w b) N
    rw [if_neg (by omega)]
    refine ⟨by omega, by omega, fun v hv => ?_⟩
    have fv : FrZ (WB b [(28, none)]) w v := by rw [hv]; exact FrZ_wI FrZ_rf (Or.inl (WB_a (by decide) (by decide)))
    have ne : b 29 ≠ b 28 := fun e => absurd (cw.2.1 29 28 (by decide) (by decide) e) (by decide)
    have o27 : OpC v b = OpC w b := by funext i; unfold OpC; rw [hv]; rfl
    have i28 : zI v (b 28) = fun i => if i = d then j else zI w (b 28) i := by
      funext i
      rw [hv, zI_wI]
      by_cases ci : i = d
      · rw [if_pos ⟨rfl, ci⟩, if_pos ci]
      · rw [if_neg (fun q => ci q.2), if_neg ci]
    have i29 : zI v (b 29) = zI w (b 29) := by funext i; rw [hv, zI_wI, if_neg (fun q => ne q.1)]
    unfold F_X9_putInOrder_127
    rw [w32e (x := d + 1) (by omega) (by omega), w32e (x := t + 1) (by omega) (by omega)]
    refine ih (n, d + 1, t + 1, v) ⟨n, d + 1, t + 1, v, rfl, ⟨b1, by omega, by omega, b4⟩, FrZ_tr f (FrZ_mono fv (fun _ _ _ a => WB_up (by decide) a)), by rw [o27]; exact s1, ?_, fun q => by omega, by rw [o27]; exact s3, by rw [o27, i28]; exact P2, by rw [o27, i29]; exact Ow⟩ (by show (640 - (t + 1)).toNat < (640 - t).toNat; omega)
    rw [i28]
    show (if (0 : Int) = d then j else zI w (b 28) 0) = _
    rw [if_neg (by omega)]; exact s28
  · rw [if_pos rfl]
    unfold F_X9_putInOrder_97
    rw [show d + -1 = d - 1 by omega, w32e (x := d - 1) (by omega) (by omega)]
    refine ⟨cK cw 4 rfl rfl, b 28, cO cw 4 6 28 (by decide), cK cw 28 rfl rfl, by omega, by omega, b 29, cO cw 4 7 29 (by decide), cK cw 29 rfl rfl, by omega, by omega, fun v hv => ?_⟩
    have fv : FrZ (WB b [(29, none)]) w v := by rw [hv]; exact FrZ_wI FrZ_rf (Or.inl (WB_a (by decide) (by decide)))
    have cv : CWz v b := CWz_fr cw (WB_L fv) (by decide)
    have n28v : zN v (b 28) = 320 := cN cv 28 rfl rfl
    have ne : b 28 ≠ b 29 := fun e => absurd (cw.2.1 28 29 (by decide) (by decide) e) (by decide)
    have i28 : zI v (b 28) = zI w (b 28) := by funext i; rw [hv, zI_wI, if_neg (fun q => ne q.1)]
    have o27 : OpC v b = OpC w b := by funext i; unfold OpC; rw [hv]; rfl
    refine ⟨b 28, cO cv 4 6 28 (by decide), cK cv 28 rfl rfl, by omega, by omega, ?_⟩
    rw [i28]
    refine k9_close cv fb.1 fb.2.1 (fun u fu hu => ?_)
    rw [o27] at hu
    have cu : CWz u b := CWz_fr cv (WB_L fu) (by decide)
    have j28 : zI u (b 28) = zI w (b 28) := by
      rw [← i28]; funext i
      exact (fu.2 (b 28) i (kbz cv (by decide)) (wl_b cv (R := [(28, none)]) (by decide) (by decide) (wHas_a (by decide)))).1
    have j29 : ∀ i, zI u (b 29) i = if i = n then zI w (b 28) (d - 1) else zI w (b 29) i := fun i => by
      rw [(fu.2 (b 29) i (kbz cv (by decide)) (wl_b cv (R := [(29, none)]) (by decide) (by decide) (wHas_a (by decide)))).1, hv, zI_wI]
      by_cases ci : i = n
      · rw [if_pos ⟨rfl, ci⟩, if_pos ci]
      · rw [if_neg (fun q => ci q.2), if_neg ci]
    have opu : ∀ j, FoN h j → (OpC u b j ↔ (OpC w b j ∧ j ≠ zI w (b 28) (d - 1))) := fun j fj => by
      have q := FoN_b hb fj
      exact hu j q.1 q.2.1
    have cn := cnQ_1 (p := OpC w b) (q := OpC u b) (k := (zI w (b 28) (d - 1)).toNat) N (by omega) (by rw [Int.toNat_of_nonneg fb.1]; exact ot) (fun x hx => by
      rw [hu x (by omega) (by omega)]
      exact ⟨fun q => ⟨q.1, fun e => q.2 (by omega)⟩, fun q => ⟨q.1, fun e => q.2 (by omega)⟩⟩)
    unfold F_X9_putInOrder_127
    rw [w32e (x := n + 1) (by omega) (by omega), w32e (x := t + 1) (by omega) (by omega)]
    refine ih (n + 1, d - 1, t + 1, u) ⟨n + 1, d - 1, t + 1, u, rfl, ⟨by omega, by omega, by omega, by omega⟩, FrZ_tr f (FrZ_tr (FrZ_mono fv (fun _ _ _ a => WB_up (by decide) a)) (FrZ_mono fu (fun _ _ _ a => WB_up (by decide) a))), fun i oi => ?_, by rw [j28]; exact s28, fun q => ?_, by omega, ⟨fun i i0 i1 => ?_, fun i i0 i1 => ?_⟩, OrdOk_s b1 Ow ft ot (fun j r fj oj => ?_) (by rw [j29, if_pos rfl]) (fun m m0 m1 => by rw [j29, if_neg (by omega)]) opu⟩ (by show (640 - (t + 1)).toNat < (640 - t).toNat; omega)
    · by_cases q : 0 ≤ i ∧ i < 320
      · exact s1 i ((hu i q.1 q.2).mp oi).1
      · exact Or.inr q
    · have e : d - 1 = 0 := q
      rw [e, s28] at hu fb
      exact fun a => ((hu _ fb.1 fb.2.1).mp a).2 rfl
    · rw [j28]
      obtain ⟨q1, q2⟩ := Pw.1 i i0 (by omega)
      refine ⟨q1, (opu _ q1).mpr ⟨q2, fun e => ?_⟩⟩
      have key : ∀ k : Nat, i + 1 + k < d → rch (LdI h) (zI w (b 28) i) (zI w (b 28) (i + 1 + k)) := by
        intro k
        induction k with
        | zero => intro hk; rw [show i + 1 + ((0 : Nat) : Int) = i + 1 by omega]; exact rch_1 (Pw.2 i i0 (by omega))
        | succ k ihk =>
          intro hk
          have r := Pw.2 (i + 1 + k) (by omega) (by omega)
          rw [show i + 1 + ((k + 1 : Nat) : Int) = i + 1 + k + 1 by omega]
          exact rch_t (ihk (by omega)) (rch_1 r)
      have := key (d - 1 - (i + 1)).toNat (by omega)
      rw [show i + 1 + ((d - 1 - (i + 1)).toNat : Int) = d - 1 by omega, ← e] at this
      exact q1.2 ⟨q1.1, this⟩
    · rw [j28]; exact Pw.2 i i0 (by omega)
    · have q := FoN_b hb fj
      refine hno j q.1 q.2.1 ?_ oj
      rw [e25]; exact (B _ j ft.1 q.1 q.2.1).mpr r
theorem k9_order {P : Int → Z → Prop} (c : CWz z b) (hb : ShB h) (B : LbC h (zG z (b 25))) (hop : ∀ i, 0 ≤ i → i < 320 → (OpC z b i ↔ FoN h i)) (p : ∀ y n, FrZ (WB b wOr) z y → (0 ≤ n ∧ n ≤ 320) → OrdOk h (zI y (b 29)) (fun _ => False) n → P n y) : F_X9_putInOrder (b 4) (h.1.1 * h.1.2) z P := by
  obtain ⟨N, hN⟩ : ∃ N : Nat, N = 320 := ⟨_, rfl⟩
  have cb := cnt_b hb
  have c0 := cnQ_le_n (OpC z b) N
  unfold F_X9_putInOrder F_X9_putInOrder_4
  refine lp_I (fun q => ∃ n x w, q = (n, x, w) ∧ ((0 ≤ n ∧ 0 ≤ x) ∧ x ≤ h.1.1 * h.1.2) ∧ FrZ (WB b wOr) z w ∧ (∀ i, 0 ≤ i → i < 320 → OpC w b i → FoN h i) ∧ (∀ i, 0 ≤ i → i < x → ¬ OpC w b i) ∧ n + (cnQ (OpC w b) N : Int) ≤ 320 ∧ OrdOk h (zI w (b 29)) (OpC w b) n) (fun q => (h.1.1 * h.1.2 - q.2.1).toNat) ?_ (0, 0, z) ⟨0, 0, z, rfl, ⟨⟨by omega, by omega⟩, by omega⟩, FrZ_rf, fun i i0 i1 w => (hop i i0 i1).mp w, fun i i0 i1 => by omega, by omega, ⟨fun m m0 m1 => by omega, fun i fi no => absurd ((hop i (FoN_b hb fi).1 (FoN_b hb fi).2.1).mpr fi) no, fun m j m0 m1 => by omega, fun m m' m0 m1 => by omega⟩⟩
  rintro G _ ⟨n, x, w, rfl, ⟨⟨n0, x0⟩, x1⟩, f, O1, O2, hn, Ow⟩ ih
  have cw : CWz w b := CWz_fr c (WB_L f) (by decide)
  have Bw : LbC h (zG w (b 25)) := by rw [Lb_f c f]; exact B
  show L_X9_putInOrder_4 (b 4) (h.1.1 * h.1.2) n x w _
  unfold L_X9_putInOrder_4
  by_cases cx : h.1.1 * h.1.2 ≤ x
  · rw [if_pos cx]
    show P n w
    have e0 : ∀ i, FoN h i → ¬ OpC w b i := fun i fi => O2 i (FoN_b hb fi).1 (by have := (FoN_b hb fi).2.2; omega)
    refine p w n f ⟨n0, by omega⟩ ⟨fun m m0 m1 => ⟨(Ow.1 m m0 m1).1, id⟩, fun i fi _ => Ow.2.1 i fi (e0 i fi), Ow.2.2⟩
  rw [if_neg cx]
  have go : ∀ u n', FrZ (WB b wOr) w u → (∀ i, OpC u b i → OpC w b i ∨ ¬ (0 ≤ i ∧ i < 320)) → ¬ OpC u b x → 0 ≤ n' → n' + (cnQ (OpC u b) N : Int) ≤ 320 → OrdOk h (zI u (b 29)) (OpC u b) n' → G (n', x + 1, u) := fun u n' fu ou nx n0' hn' Ou => by
    refine ih (n', x + 1, u) ⟨n', x + 1, u, rfl, ⟨⟨n0', by omega⟩, by omega⟩, FrZ_tr f fu, fun i i0 i1 q => ?_, fun i i0 i1 q => ?_, hn', Ou⟩ (by show (_ - (x + 1)).toNat < (_ - x).toNat; omega)
    · rcases ou i q with a | a
      · exact O1 i i0 i1 a
      · exact absurd ⟨i0, i1⟩ a
    · by_cases ci : i = x
      · rw [ci] at q; exact nx q
      · rcases ou i q with a | a
        · exact O2 i i0 (by omega) a
        · exact a ⟨i0, by omega⟩
  refine ⟨cK cw 4 rfl rfl, k9_isOpen cw x0 (by omega) (fun ho => ?_) (fun ho => ?_)⟩
  · rw [if_neg (by decide)]
    have n28 : zN w (b 28) = 320 := cN cw 28 rfl rfl
    refine ⟨b 28, cO cw 4 6 28 (by decide), cK cw 28 rfl rfl, by omega, by omega, fun v hv => ?_⟩
    have fv : FrZ (WB b [(28, none)]) w v := by rw [hv]; exact FrZ_wI FrZ_rf (Or.inl (WB_a (by decide) (by decide)))
    have cv : CWz v b := CWz_fr cw (WB_L fv) (by decide)
    have ne : b 29 ≠ b 28 := fun e => absurd (cw.2.1 29 28 (by decide) (by decide) e) (by decide)
    have o27 : OpC v b = OpC w b := by funext i; unfold OpC; rw [hv]; rfl
    have i29 : zI v (b 29) = zI w (b 29) := by funext i; rw [hv, zI_wI, if_neg (fun q => ne q.1)]
    have g25 : zG v (b 25) = zG w (b 25) := by funext i; rw [hv]; rfl
    have i28 : zI v (b 28) 0 = x := by rw [hv, zI_wI, if_pos ⟨rfl, rfl⟩]
    unfold F_X9_putInOrder_30
    refine k9_o33 hN cv hb (by rw [g25]; exact Bw) (by rw [o27]; exact O1) n0 (by rw [o27]; exact hn) (by rw [o27, i29]; exact Ow) ⟨fun i i0 i1 => ?_, fun i i0 i1 => by omega⟩ (fun u n' fu ou nx n0' hn' Ou => ?_)
    · rw [show i = 0 by omega, i28, o27]; exact ⟨O1 x x0 (by omega) ho, ho⟩
    · unfold F_X9_putInOrder_133
      rw [w32e (x := x + 1) (by omega) (by omega)]
      rw [i28] at nx
      rw [o27] at ou
      exact go u n' (FrZ_tr (FrZ_mono fv (fun _ _ _ a => WB_up (by decide) a)) fu) ou nx n0' hn' Ou
  · rw [if_pos rfl]
    unfold F_X9_putInOrder_30 F_X9_putInOrder_33
    refine lp_I (fun q => q = (n, 0, 0, w)) (fun _ => 0) ?_ (n, 0, 0, w) rfl
    rintro G2 _ rfl ih2
    show L_X9_putInOrder_33 (b 4) _ n x 0 0 w _
    unfold L_X9_putInOrder_33
    rw [if_neg (by decide), if_pos (by decide)]
    show F_X9_putInOrder_133 (b 4) _ n x w _
    unfold F_X9_putInOrder_133
    rw [w32e (x := x + 1) (by omega) (by omega)]
    exact go w n FrZ_rf (fun _ q => Or.inl q) ho n0 hn Ow
end Or
