/-! ===== the system: AND to COUNT ===== -/
def lsR : List Int → Int
  | [] => 1000000000000000
  | x :: xs => min (lsR xs) x
def gtR : List Int → Int
  | [] => -1000000000000000
  | x :: xs => max (gtR xs) x
theorem lsR_0 : ∀ xs : List Int, (∀ x ∈ xs, x = 0 ∨ x = 1) → 0 ≤ lsR xs ∧ (lsR xs = 0 ↔ xs.all (fun x => decide (x ≠ 0)) = false)
  | [], _ => ⟨by decide, by decide⟩
  | x :: xs, h => by
    obtain ⟨i1, i2⟩ := lsR_0 xs (fun y hy => h y (List.mem_cons_of_mem _ hy))
    have hx := h x List.mem_cons_self
    rw [lsR, List.all_cons, Bool.and_eq_false_iff, ← i2, decide_eq_false_iff_not]
    omega
theorem gtR_0 : ∀ xs : List Int, (∀ x ∈ xs, x = 0 ∨ x = 1) → (xs = [] → gtR xs = -1000000000000000) ∧ (xs ≠ [] → 0 ≤ gtR xs) ∧ (xs ≠ [] → (gtR xs = 0 ↔ xs.any (fun x => decide (x ≠ 0)) = false))
  | [], _ => ⟨fun _ => rfl, fun h => absurd rfl h, fun h => absurd rfl h⟩
  | x :: xs, h => by
    obtain ⟨i0, i1, i2⟩ := gtR_0 xs (fun y hy => h y (List.mem_cons_of_mem _ hy))
    have hx := h x List.mem_cons_self
    rw [gtR]
    refine ⟨fun w => absurd w (by simp), ⟨fun _ => by omega, fun _ => ?_⟩⟩
    rw [List.any_cons, Bool.or_eq_false_iff, decide_eq_false_iff_not]
    by_cases c : xs = []
    · have := i0 c
      rw [c, show ([] : List Int).any (fun x => decide (x ≠ 0)) = false from rfl]
      rw [c] at this
      constructor
      · intro w; exact ⟨by omega, rfl⟩
      · intro w; have := w.1; omega
    · rw [← i2 c]
      have := i1 c
      omega
theorem besR_c (op x : Int) {xs : List Int} (h : xs ≠ []) : besR op (x :: xs) = if (if op = 22 then x < besR op xs else besR op xs < x) then x else besR op xs := by
  rw [besR]
  by_cases c : (if op = 22 then x < besR op xs else besR op xs < x)
  · rw [if_pos (Or.inr c), if_pos c]
  · rw [if_neg (fun w => w.elim h c), if_neg c]
theorem lsR_b : ∀ xs : List Int, (∀ x ∈ xs, -1000000000000000 ≤ x ∧ x ≤ 1000000000000000) → xs ≠ [] → lsR xs = besR 22 xs
  | [], _, h => absurd rfl h
  | x :: xs, hb, _ => by
    have hx := hb x List.mem_cons_self
    rw [lsR]
    by_cases c : xs = []
    · rw [c]; show min (1000000000000000 : Int) x = x; omega
    · rw [lsR_b xs (fun y hy => hb y (List.mem_cons_of_mem _ hy)) c, besR_c 22 x c]
      by_cases d : x < besR 22 xs
      · rw [if_pos (by rw [if_pos rfl]; exact d)]; omega
      · rw [if_neg (by rw [if_pos rfl]; exact d)]; omega
theorem gtR_b : ∀ xs : List Int, (∀ x ∈ xs, -1000000000000000 ≤ x ∧ x ≤ 1000000000000000) → xs ≠ [] → gtR xs = besR 23 xs
  | [], _, h => absurd rfl h
  | x :: xs, hb, _ => by
    have hx := hb x List.mem_cons_self
    rw [gtR]
    by_cases c : xs = []
    · rw [c]; show max (-1000000000000000 : Int) x = x; omega
    · rw [gtR_b xs (fun y hy => hb y (List.mem_cons_of_mem _ hy)) c, besR_c 23 x c]
      by_cases d : besR 23 xs < x
      · rw [if_pos (by rw [if_neg (by decide)]; exact d)]; omega
      · rw [if_neg (by rw [if_neg (by decide)]; exact d)]; omega
def wTa : WR := [(4, some 16), (4, some 17), (4, some 18), (4, some 19), (4, some 20)]
def TlC (z : Z) (b : Nat → Nat) (op : Int) (s : Tly) : Prop := match s with
  | .inl e => zI z (b 4) 16 = e.2.1 ∧ VOk e ∧ e.1 = 4
  | .inr xs => zI z (b 4) 16 = 0 ∧ zI z (b 4) 17 = (xs.length : Int) ∧ (op ≠ 24 → zG z (b 4) 18 = sumR xs ∧ zG z (b 4) 19 = lsR xs ∧ zG z (b 4) 20 = gtR xs)
def telT (op : Int) (s : Tly) : Lit := match s with
  | .inl e => e
  | .inr xs => telV op xs
section Ga
variable {z y : Z} {b sv sb : Nat → Nat} {J : Nat → Prop} {E : Int → Sh} {V : Int → Int → Int → Lit} {ps : List Prt} {pa : Nat} {op : Int}
theorem wTa_i {i : Int} (h : wHas wTa 4 i) : 16 ≤ i ∧ i ≤ 20 := by
  obtain ⟨t, h1, -, h3⟩ := h
  simp only [wTa, List.mem_cons, List.not_mem_nil, or_false] at h1
  rcases h1 with ht | ht | ht | ht | ht <;> subst ht <;> (rcases h3 with h3 | h3 <;> (first | (cases h3; done) | (injection h3 with h3; omega)))
theorem ArC_ta (K : WkC z b J sv sb) (f : FrZ (WB b wTa) z y) {sh : Nat} {h : Sh} {g : Int → Int → Lit} {t c l r : Int} (A : ArC z b J sh h g t c l r) : ArC y b J sh h g t c l r := by
  obtain ⟨⟨d1, d2, d3, d4, d5⟩, a2, a3, a4⟩ := A
  have k4 : zK z (b 4) ≠ 0 := by rw [cK K.1 4 rfl rfl]; decide
  have fW : FrZ (WkW b sv sb) z y := wk_w (by decide) f
  have n : ∀ i : Int, ¬ (16 ≤ i ∧ i ≤ 20) → ¬ WB b wTa (b 4) i := fun i hi w => hi (wTa_i (WB_4 (by decide) w).2)
  exact ⟨⟨(f.2 (b 4) 11 k4 (n 11 (by decide))).2.2.trans d1, (f.2 (b 4) 12 k4 (n 12 (by decide))).1.trans d2, (f.2 (b 4) 13 k4 (n 13 (by decide))).1.trans d3, (f.2 (b 4) 14 k4 (n 14 (by decide))).1.trans d4, (f.2 (b 4) 15 k4 (n 15 (by decide))).1.trans d5⟩, ShC_wk K fW a2, a3, fun x w x0 x1 y0 y1 => CvL_wk K fW a2 (a4 x w x0 x1 y0 y1)⟩
theorem k9_tally {x : Int} {xs : List Int} {P : Z → Prop} (K : WkC z b J sv sb) (T : TlC z b op (.inr xs)) (hl : xs.length ≤ 1000000) (p : ∀ y, FrZ (WB b wTa) z y → TlC y b op (.inr (x :: xs)) → P y) : F_X9_tally (b 4) x z P := by
  obtain ⟨t1, t2, t3⟩ := T
  unfold F_X9_tally
  refine ⟨cK K.1 4 rfl rfl, fun z1 e1 z2 e2 z3 e3 z4 e4 => p z4 ?_ ?_⟩
  · rw [e4, e3, e2, e1]
    exact FrZ_wG (FrZ_wG (FrZ_wG (FrZ_wI FrZ_rf (Or.inl (WB_i (by decide) (by decide)))) (Or.inl (WB_i (by decide) (by decide)))) (Or.inl (WB_i (by decide) (by decide)))) (Or.inl (WB_i (by decide) (by decide)))
  · have q1 : ∀ i, zI z4 (b 4) i = zI z1 (b 4) i := fun i => by rw [e4, e3, e2]; rfl
    refine ⟨?_, ?_, fun h24 => ?_⟩
    · rw [q1, e1, zI_wI, if_neg (fun w => absurd w.2 (by decide))]; exact t1
    · rw [q1, e1, zI_wI, if_pos ⟨rfl, rfl⟩, t2, w32e (by omega) (by omega), List.length_cons]; omega
    · obtain ⟨u1, u2, u3⟩ := t3 h24
      have g1 : ∀ i, zG z1 (b 4) i = zG z (b 4) i := fun i => by rw [e1]; rfl
      refine ⟨?_, ?_, ?_⟩
      · rw [e4, zG_wG, if_neg (fun w => absurd w.2 (by decide)), e3, zG_wG, if_neg (fun w => absurd w.2 (by decide)), e2, zG_wG, if_pos ⟨rfl, rfl⟩, g1, u1]; rfl
      · rw [e4, zG_wG, if_neg (fun w => absurd w.2 (by decide)), e3, zG_wG, if_pos ⟨rfl, rfl⟩, e2, zG_wG, if_neg (fun w => absurd w.2 (by decide)), g1, u2]; rfl
      · rw [e4, zG_wG, if_pos ⟨rfl, rfl⟩, e3, zG_wG, if_neg (fun w => absurd w.2 (by decide)), e2, zG_wG, if_neg (fun w => absurd w.2 (by decide)), g1, u3]; rfl
theorem k9_err {n : Int} {P : Z → Prop} (n1 : 1 ≤ n) (n7 : n ≤ 7) (p : ∀ y, FrZ (WB b wTa) z y → TlC y b op (.inl (erL n)) → P y) : ∀ y, y = wI z (b 4) 16 n → P y := by
  intro y e
  refine p y (by rw [e]; exact FrZ_wI FrZ_rf (Or.inl (WB_i (by decide) (by decide)))) ⟨?_, VOk_er n1 n7, rfl⟩
  rw [e, zI_wI, if_pos ⟨rfl, rfl⟩]; rfl
theorem k9_targ {a ba : Nat} {l : Lit} {ab : Bool} {xs : List Int} {P : Z → Prop} (K : WkC z b J sv sb) (hop : 19 ≤ op ∧ op ≤ 24) (X : VlS z a ba l) (o : VOk l) (ha : a ≠ b 4) (hab : zI z a 3 = if ab = true then 1 else 0) (T : TlC z b op (.inr xs)) (hl : xs.length ≤ 1000000) (p : ∀ y, FrZ (WB b wTa) z y → TlC y b op (onT op l ab xs) → P y) : F_X9_tallyArg (b 4) op (some a) z P := by
  have k4 : zK z (b 4) = 10 := cK K.1 4 rfl rfl
  unfold onT at p
  unfold F_X9_tallyArg F_X9_tallyArg_60 F_X9_tallyArg_65 F_X9_tallyArg_87
  by_cases c24 : op = 24
  · rw [if_pos c24]
    rw [if_pos c24] at p
    refine ⟨a, rfl, X.1.1, ?_⟩
    rw [hab]
    have key : ∀ s1 : Int, (s1 = if ab = true then 1 else 0) → F_X9_tallyArg_19 (b 4) (some a) (some (b 4)) s1 z P := fun s1 es => by
      unfold F_X9_tallyArg_19 F_X9_tallyArg_40 F_X9_tallyArg_87
      refine ⟨b 4, rfl, k4, fun z1 e1 => ?_⟩
      have f1 : FrZ (WB b wTa) z z1 := by rw [e1]; exact FrZ_wI FrZ_rf (Or.inl (WB_i (by decide) (by decide)))
      have k4' : zK z1 (b 4) = 10 := (f1.1 (b 4) (by rw [k4]; decide)).1.trans k4
      have ka' : zK z1 a = 9 := (f1.1 a (by rw [X.1.1]; decide)).1.trans X.1.1
      have i1 : zI z1 a 1 = l.1 := by rw [e1, zI_wI, if_neg (fun w => ha w.1)]; exact X.1.2.1
      have i16 : zI z1 (b 4) 16 = s1 := by rw [e1, zI_wI, if_pos ⟨rfl, rfl⟩]
      have i17 : zI z1 (b 4) 17 = (xs.length : Int) := by rw [e1, zI_wI, if_neg (fun w => absurd w.2 (by decide))]; exact T.2.1
      refine ⟨k4', a, rfl, ka', ?_⟩
      rw [i1, i17]
      have fin : ∀ (n : Int), (n = if l.1 = 1 then 1 else 0) → ∃ a_41, some (b 4) = some a_41 ∧ zK z1 a_41 = 10 ∧ (∀ z_41, z_41 = wI z1 a_41 17 (w32 ((xs.length : Int) + n)) → P z_41) := fun n en => by
        refine ⟨b 4, rfl, k4', fun z2 e2 => p z2 ?_ ?_⟩
        · rw [e2]; exact FrZ_wI f1 (Or.inl (WB_i (by decide) (by decide)))
        · have j16 : zI z2 (b 4) 16 = s1 := by rw [e2, zI_wI, if_neg (fun w => absurd w.2 (by decide))]; exact i16
          by_cases cb : ab = true
          · rw [if_pos cb]
            rw [if_pos cb] at es
            exact ⟨by rw [j16, es]; rfl, VOk_er (by decide) (by decide), rfl⟩
          · rw [if_neg cb]
            rw [if_neg cb] at es
            have j17 : zI z2 (b 4) 17 = (xs.length : Int) + n := by
              rw [e2, zI_wI, if_pos ⟨rfl, rfl⟩, w32e]
              · split at en <;> omega
              · split at en <;> omega
            by_cases c1 : l.1 = 1
            · rw [if_pos c1]
              rw [if_pos c1] at en
              exact ⟨by rw [j16, es], by rw [j17, en, List.length_cons]; omega, fun w => absurd c24 w⟩
            · rw [if_neg c1]
              rw [if_neg c1] at en
              exact ⟨by rw [j16, es], by rw [j17, en]; omega, fun w => absurd c24 w⟩
      by_cases c1 : l.1 = 1
      · rw [if_pos c1]; exact fin 1 (by rw [if_pos c1])
      · rw [if_neg c1]; exact fin 0 (by rw [if_neg c1])
    by_cases cb : ab = true
    · rw [if_pos cb, if_neg (by decide)]; exact key 1 (by rw [if_pos cb])
    · rw [if_neg cb, if_pos rfl]; exact key 0 (by rw [if_neg cb])
  rw [if_neg c24]
  rw [if_neg c24] at p
  have key : ∃ a_65, some a = some a_65 ∧ zK z a_65 = 9 ∧ F_X8_servesAs a_65 (wtK op) z (fun x_65 => (if x_65 = 0 then (zK z (b 4) = 10 ∧ (∀ z_84, z_84 = wI z (b 4) 16 3 → P z_84)) else (∃ a_73, some a = some a_73 ∧ zK z a_73 = 9 ∧ (zK z (b 4) = 10 ∧ F_X9_tally (b 4) (zG z a_73 2) z (fun z_76 => P z_76))))) := by
    refine ⟨a, rfl, X.1.1, k_serves X (fun c => ?_) (fun c => ?_)⟩
    · rw [if_neg (by decide)]
      rw [if_pos c] at p
      have w13 : wtK op = 3 ∨ wtK op = 1 := by unfold wtK; split; exact Or.inl rfl; exact Or.inr rfl
      refine ⟨a, rfl, X.1.1, k4, ?_⟩
      rw [VlS_g X (by omega)]
      exact k9_tally K T hl p
    · rw [if_pos rfl]
      rw [if_neg c] at p
      exact ⟨k4, k9_err (by decide) (by decide) p⟩
  unfold wtK at key
  by_cases c19 : op = 19
  · rw [if_pos c19]; rw [if_pos (Or.inl c19)] at key; exact key
  · rw [if_neg c19]
    by_cases c20 : op = 20
    · rw [if_pos c20]; rw [if_pos (Or.inr c20)] at key; exact key
    · rw [if_neg c20]; rw [if_neg (fun w => w.elim c19 c20)] at key; exact key
/-- one row of cells -/
theorem k9_t37 {sh : Nat} {h : Sh} {f : Int → Int → Lit} {t c l r x k : Int} {xs0 xs : List Int} {Q : (Int × Z) ⊕ (Z ⊕ (Option Nat × Z)) → Prop} (K : WkC z b J sv sb) (A : ArC z b J sh h f t c l r) (hx : t ≤ x ∧ x ≤ c) (hk : k = (x - t) * (r - l + 1)) (h0 : xs0.length ≤ 100000) (hf : ((arL f (t, c, l, r)).take k.toNat).foldl (celS op) (.inr xs0) = .inr xs) (T : TlC z b op (.inr xs)) (h1 : ∀ y v vb e, FrZ (WB b wTa) z y → VlS y v vb e → VOk e → e.1 = 4 → (arL f (t, c, l, r)).foldl (celS op) (.inr xs0) = .inl e → Q (.inr (.inr (some v, y)))) (h2 : ∀ y xs', FrZ (WB b wTa) z y → ((arL f (t, c, l, r)).take (k + (r - l + 1)).toNat).foldl (celS op) (.inr xs0) = .inr xs' → TlC y b op (.inr xs') → Q (.inl (x + 1 + 1, y))) : F_X9_tallyCells_37 (b 4) op (wtK op) (x + 1) (l + 1) z Q := by
  have A' := A
  obtain ⟨-, -, ⟨⟨t0, t1, t2, t3⟩, l0, l1, l2, l3⟩, -⟩ := A'
  have ln : ((arL f (t, c, l, r)).length : Int) = (c - t + 1) * (r - l + 1) := arL_len f t1 l1 (by omega) (by omega)
  have sz := ar_s (t := t) (b := c) (l := l) (r := r) (by omega) (by omega) (by omega) (by omega)
  have kr := (arL_xy f hx (y := r) ⟨l1, Int.le_refl _⟩ (0, 0, [])).1
  have k0 := (arL_xy f hx (y := l) ⟨Int.le_refl _, l1⟩ (0, 0, [])).1
  unfold F_X9_tallyCells_37
  refine lp_I (fun q => (l + 1 ≤ q.1 ∧ q.1 ≤ r + 2) ∧ FrZ (WB b wTa) z q.2 ∧ ∃ xs', ((arL f (t, c, l, r)).take (k + (q.1 - (l + 1))).toNat).foldl (celS op) (.inr xs0) = .inr xs' ∧ TlC q.2 b op (.inr xs')) (fun q => (r + 2 - q.1).toNat) ?_ (l + 1, z) (And.intro ⟨Int.le_refl _, by show l + 1 ≤ r + 2; omega⟩ (And.intro FrZ_rf ⟨xs, by show (List.take (k + (l + 1 - (l + 1))).toNat _).foldl _ _ = _; rw [show k + (l + 1 - (l + 1)) = k by omega]; exact hf, T⟩))
  rintro G ⟨q, w⟩ ⟨⟨q0, q1⟩, g, ys, e1, T2⟩ ih
  simp only at q0 q1 g e1 T2
  have fW : FrZ (WkW b sv sb) z w := wk_w (by decide) g
  have Kw := WkC_fr K fW
  obtain ⟨⟨d1, d2, d3, d4, d5⟩, hs, -, hcv⟩ := ArC_ta K g A
  have k4 : zK w (b 4) = 10 := cK Kw.1 4 rfl rfl
  show L_X9_tallyCells_37 (b 4) op (wtK op) (x + 1) q w _
  unfold L_X9_tallyCells_37
  refine ⟨k4, ?_⟩
  rw [d5]
  by_cases cq : r + 1 < q
  · rw [if_pos cq]
    show Q (.inl (w32 (x + 1 + 1), w))
    rw [w32e (x := x + 1 + 1) (by omega) (by omega)]
    refine h2 w ys g ?_ T2
    rw [show r - l + 1 = q - (l + 1) by omega]; exact e1
  rw [if_neg cq]
  obtain ⟨yc, rfl⟩ : ∃ yc, q = yc + 1 := ⟨q - 1, by omega⟩
  have cy := arL_xy f hx (y := yc) (l := l) (r := r) (by omega) (0, 0, [])
  have hcx := hcv x yc hx.1 hx.2 (by omega) (by omega)
  generalize hp : k + (yc + 1 - (l + 1)) = p at *
  have ei : (x - t) * (r - l + 1) + (yc - l) = p := by omega
  rw [ei] at cy
  obtain ⟨⟨cy1, cy2⟩, cy3⟩ := cy
  have pn : (p + 1).toNat = p.toNat + 1 := by omega
  have tk := fold_tk (celS op) (L := arL f (t, c, l, r)) (k := p.toNat) (by omega) (0, 0, []) (.inr xs0)
  have td := fold_td (celS op) (arL f (t, c, l, r)) (p.toNat + 1) (.inr xs0)
  rw [cy3, e1, celS_i] at tk
  have tl := tlN_cels op ((arL f (t, c, l, r)).take p.toNat) (.inr xs0)
  rw [e1, List.length_take] at tl
  have tl : ys.length ≤ xs0.length + min p.toNat (arL f (t, c, l, r)).length := tl
  have next : ∀ y ys', FrZ (WB b wTa) z y → ((arL f (t, c, l, r)).take (p.toNat + 1)).foldl (celS op) (.inr xs0) = .inr ys' → TlC y b op (.inr ys') → G (yc + 1 + 1, y) := fun y ys' g' e' T' => by
    refine ih (yc + 1 + 1, y) (And.intro ⟨by show l + 1 ≤ yc + 1 + 1; omega, by show yc + 1 + 1 ≤ r + 2; omega⟩ (And.intro g' ⟨ys', ?_, T'⟩)) (by show (r + 2 - (yc + 1 + 1)).toNat < (r + 2 - (yc + 1)).toNat; omega)
    show ((arL f (t, c, l, r)).take (k + (yc + 1 + 1 - (l + 1))).toNat).foldl (celS op) (.inr xs0) = .inr ys'
    rw [show k + (yc + 1 + 1 - (l + 1)) = p + 1 by omega, pn]; exact e'
  refine k9_met Kw d1 hs (by omega) (by omega) (by omega) (by omega) hcx ?_
  intro v vb Vv nv
  have ov := hcx.1
  generalize f x yc = cl at *
  have c81 : ∀ R : (Int × Z) ⊕ (Z ⊕ (Option Nat × Z)) → Prop, (∀ s', G s' → R (.inl s')) → ¬ (cl.1 = 4 ∧ op ≠ 24) → F_X9_tallyCells_81 (b 4) op (wtK op) (x + 1) (yc + 1) (some v) w R := fun R hR hne => by
    rw [if_neg hne] at tk
    unfold F_X9_tallyCells_81 F_X9_tallyCells_99
    rw [w32e (x := yc + 1 + 1) (by omega) (by omega)]
    refine ⟨v, rfl, Vv.1.1, ?_⟩
    rw [Vv.1.2.1]
    by_cases ck : cl.1 = wtK op
    · rw [if_pos ck]
      rw [if_pos ck] at tk
      have w13 : wtK op = 3 ∨ wtK op = 1 := by unfold wtK; split; exact Or.inl rfl; exact Or.inr rfl
      refine ⟨k4, ?_⟩
      rw [VlS_g Vv (by omega)]
      exact k9_tally Kw T2 (by omega) (fun y g' T' => hR _ (next y _ (FrZ_tr g g') tk T'))
    · rw [if_neg ck]
      rw [if_neg ck] at tk
      exact hR _ (next w ys g tk T2)
  refine ⟨v, rfl, Vv.1.1, ?_⟩
  rw [Vv.1.2.1]
  by_cases c4 : cl.1 = 4
  · rw [if_pos c4]
    by_cases c24 : op = 24
    · rw [if_pos c24]; exact c81 _ (fun _ h => h) (fun w => w.2 c24)
    · rw [if_neg c24]
      rw [if_pos ⟨c4, c24⟩] at tk
      refine h1 w v vb cl g Vv ov c4 ?_
      rw [td, tk, celS_e]
  · rw [if_neg c4]; exact c81 _ (fun _ h => h) (fun w => c4 w.1)
theorem k9_tcells {sh : Nat} {h : Sh} {f : Int → Int → Lit} {t c l r : Int} {xs0 : List Int} {P : Z → Prop} (K : WkC z b J sv sb) (A : ArC z b J sh h f t c l r) (h0 : xs0.length ≤ 100000) (T : TlC z b op (.inr xs0)) (p : ∀ y, FrZ (WB b wTa) z y → TlC y b op ((arL f (t, c, l, r)).foldl (celS op) (.inr xs0)) → P y) : F_X9_tallyCells (b 4) op z P := by
  have A' := A
  obtain ⟨⟨d1, d2, d3, d4, d5⟩, hs, ⟨⟨t0, t1, t2, t3⟩, l0, l1, l2, l3⟩, hcv⟩ := A'
  have ln : ((arL f (t, c, l, r)).length : Int) = (c - t + 1) * (r - l + 1) := arL_len f t1 l1 (by omega) (by omega)
  have k4 : zK z (b 4) = 10 := cK K.1 4 rfl rfl
  have key : F_X9_tallyCells_23 (b 4) op (wtK op) (t + 1) z P := by
    unfold F_X9_tallyCells_23
    refine lp_I (fun q => ∃ x, (t ≤ x ∧ x ≤ c + 1) ∧ q.1 = x + 1 ∧ FrZ (WB b wTa) z q.2 ∧ ∃ xs', ((arL f (t, c, l, r)).take ((x - t) * (r - l + 1)).toNat).foldl (celS op) (.inr xs0) = .inr xs' ∧ TlC q.2 b op (.inr xs')) (fun q => (c + 2 - q.1).toNat) ?_ (t + 1, z) ⟨t, ⟨Int.le_refl _, by omega⟩, rfl, FrZ_rf, xs0, by rw [Int.sub_self, Int.zero_mul]; rfl, T⟩
    rintro G ⟨q, w⟩ ⟨x, ⟨x0, x1⟩, e1, g, ys, e2, T2⟩ ih
    simp only at e1 g T2
    have fW : FrZ (WkW b sv sb) z w := wk_w (by decide) g
    have Kw := WkC_fr K fW
    have Aw := ArC_ta K g A
    have k4' : zK w (b 4) = 10 := cK Kw.1 4 rfl rfl
    show L_X9_tallyCells_23 (b 4) op (wtK op) q w _
    unfold L_X9_tallyCells_23
    refine ⟨k4', ?_⟩
    rw [Aw.1.2.2.1, Aw.1.2.2.2.1, e1]
    by_cases cq : c + 1 < x + 1
    · rw [if_pos cq]
      show P w
      have ex : x = c + 1 := by omega
      refine p w g ?_
      rw [ex, show c + 1 - t = c - t + 1 by omega, ← ln, Int.toNat_natCast, List.take_length] at e2
      rw [e2]; exact T2
    · rw [if_neg cq]
      refine k9_t37 Kw Aw ⟨x0, by omega⟩ rfl h0 e2 T2 (fun y v vb e g' Vv oe e4 ef => ?_) (fun y xs' g' e' T' => ?_)
      · have Ky := WkC_fr Kw (wk_w (by decide) g')
        have oe' := VOk_e oe e4
        show ∃ a_73, some v = some a_73 ∧ zK y a_73 = 9 ∧ (zK y (b 4) = 10 ∧ (∀ z_77, z_77 = wI y (b 4) 16 (w32 (zG y a_73 2)) → P z_77))
        refine ⟨v, rfl, Vv.1.1, cK Ky.1 4 rfl rfl, ?_⟩
        rw [VlS_g Vv (by omega), w32e (by omega) (by omega)]
        refine k9_err (op := op) oe'.2.1 oe'.2.2 (fun y2 g2 T' => p y2 (FrZ_tr g (FrZ_tr g' g2)) ?_)
        rw [ef, oe'.1]; exact T'
      · refine ih (x + 1 + 1, y) ⟨x + 1, ⟨by omega, by omega⟩, rfl, FrZ_tr g g', xs', ?_, T'⟩ (by show (c + 2 - (x + 1 + 1)).toNat < (c + 2 - q).toNat; omega)
        rw [show x + 1 - t = x - t + 1 by omega, Int.add_mul (x - t) 1, Int.one_mul]; exact e'
  unfold F_X9_tallyCells F_X9_tallyCells_12 F_X9_tallyCells_17
  rw [d2]
  unfold wtK at key
  by_cases c19 : op = 19
  · rw [if_pos c19]; rw [if_pos (Or.inl c19)] at key; exact ⟨k4, key⟩
  · rw [if_neg c19]
    by_cases c20 : op = 20
    · rw [if_pos c20]; rw [if_pos (Or.inr c20)] at key; exact ⟨k4, key⟩
    · rw [if_neg c20]; rw [if_neg (fun w => w.elim c19 c20)] at key; exact ⟨k4, key⟩
theorem k9_tell {a ba : Nat} {s : Tly} {P : Z → Prop} (K : WkC z b J sv sb) (hop : 19 ≤ op ∧ op ≤ 24) (B : VlB z a ba) (T : TlC z b op s) (o : TOk op s) (p : ∀ y, VlS y a ba (telT op s) → zI y a 3 = 0 → FrZ (VW a ba) z y → P y) : F_X9_tell (b 4) op (some a) z P := by
  have k4 : zK z (b 4) = 10 := cK K.1 4 rfl rfl
  unfold F_X9_tell F_X9_tell_43 F_X9_tell_48 F_X9_tell_81 F_X9_tell_82 F_X9_tell_161 F_X9_tell_164
  refine ⟨k4, ?_⟩
  match s, T, o, p with
  | .inl e, T, o, p =>
    obtain ⟨t1, t2, t3⟩ := T
    have oe := VOk_e t2 t3
    have p : ∀ y, VlS y a ba e → zI y a 3 = 0 → FrZ (VW a ba) z y → P y := p
    rw [t1, if_neg (by omega)]
    refine ⟨a, rfl, B.1, k_set B (by decide) (fun y g1 g2 g3 => p y ?_ g2 g3)⟩
    rw [oe.1]; exact g1
  | .inr xs, T, o, p =>
    obtain ⟨t1, t2, t3⟩ := T
    have p : ∀ y, VlS y a ba (telV op xs) → zI y a 3 = 0 → FrZ (VW a ba) z y → P y := p
    unfold telV at p
    rw [t1, if_pos rfl, t2]
    have len0 : (xs.length : Int) = 0 ↔ xs = [] := by
      constructor
      · intro w; exact List.length_eq_zero_iff.mp (by omega)
      · intro w; rw [w]; rfl
    by_cases c19 : op = 19
    · rw [if_pos c19]
      rw [if_pos c19] at p
      obtain ⟨-, u2, -⟩ := t3 (by omega)
      rw [u2]
      have l0 := lsR_0 xs (fun x hx => (o x hx).2 (by unfold wtK; rw [if_pos (Or.inl c19)]))
      by_cases c0 : (xs.length : Int) = 0
      · rw [if_pos c0]
        rw [len0.mp c0] at p
        exact ⟨a, rfl, B.1, k_truth B (by decide) p⟩
      · rw [if_neg c0]
        by_cases cl : lsR xs = 0
        · rw [if_pos cl]; exact ⟨a, rfl, B.1, k_truth B (by rw [← l0.2]; simp [cl]) p⟩
        · rw [if_neg cl]; exact ⟨a, rfl, B.1, k_truth B (by rw [← l0.2]; simp [cl]) p⟩
    rw [if_neg c19]
    rw [if_neg c19] at p
    by_cases c20 : op = 20
    · rw [if_pos c20]
      rw [if_pos c20] at p
      obtain ⟨-, -, u3⟩ := t3 (by omega)
      rw [u3]
      have l0 := gtR_0 xs (fun x hx => (o x hx).2 (by unfold wtK; rw [if_pos (Or.inr c20)]))
      by_cases c0 : (xs.length : Int) ≤ 0
      · rw [if_pos c0]
        rw [len0.mp (by omega)] at p
        exact ⟨a, rfl, B.1, k_truth B (by decide) p⟩
      · rw [if_neg c0]
        have l2 := l0.2.2 (fun w => by rw [w] at c0; exact c0 (by decide))
        by_cases cl : gtR xs = 0
        · rw [if_pos cl]; exact ⟨a, rfl, B.1, k_truth B (by rw [← l2]; simp [cl]) p⟩
        · rw [if_neg cl]; exact ⟨a, rfl, B.1, k_truth B (by rw [← l2]; simp [cl]) p⟩
    rw [if_neg c20]
    rw [if_neg c20] at p
    by_cases c21 : op = 21
    · rw [if_pos c21]
      rw [if_neg (by omega), if_pos c21] at p
      obtain ⟨u1, -, -⟩ := t3 (by omega)
      rw [u1]
      exact ⟨a, rfl, B.1, k_bound B p⟩
    rw [if_neg c21]
    by_cases c24 : op = 24
    · rw [if_pos c24]
      rw [if_pos c24] at p
      exact ⟨a, rfl, B.1, k_set B (by decide) p⟩
    rw [if_neg c24]
    rw [if_neg c24, if_neg c21] at p
    obtain ⟨-, u2, u3⟩ := t3 c24
    have ob : ∀ x ∈ xs, -1000000000000000 ≤ x ∧ x ≤ 1000000000000000 := fun x hx => (o x hx).1
    by_cases c0 : (xs.length : Int) = 0
    · rw [if_pos c0]
      rw [if_pos (len0.mp c0)] at p
      exact ⟨a, rfl, B.1, k_set B (by decide) p⟩
    · rw [if_neg c0]
      have hne : xs ≠ [] := fun w => c0 (len0.mpr w)
      rw [if_neg hne] at p
      by_cases c22 : op = 22
      · rw [if_pos c22, u2, lsR_b xs ob hne]
        rw [c22] at p
        exact ⟨a, rfl, B.1, k_set B (by decide) p⟩
      · rw [if_neg c22, u3, gtR_b xs ob hne]
        rw [show op = 23 by omega] at p
        exact ⟨a, rfl, B.1, k_set B (by decide) p⟩
end Ga
