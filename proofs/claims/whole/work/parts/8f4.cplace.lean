/-! ===== the system: what a formula looks at, MATCH, COUNTIF, INDEX, ROW, COL ===== -/
def EnL (z : Z) (b : Nat → Nat) (J : Nat → Prop) (E : Int → Sh) (V : Int → Int → Int → Lit) (ps : List Prt) : Prop := ∀ j : Nat, j < ps.length → ((ps.getD j pd0).1 = 16 ∨ (ps.getD j pd0).1 = 17) → ∃ sh, ShV z b (ps.getD j pd0).2.2.2.2.2 sh ∧ ShC z J sh (E (ps.getD j pd0).2.2.2.2.2) ∧ ((ps.getD j pd0).1 = 16 → ¬ alnP ps j → ∀ r c, spP (E (ps.getD j pd0).2.2.2.2.2) (ps.getD j pd0) = some (r, c) → CvL z b J sh (E (ps.getD j pd0).2.2.2.2.2) r c (V (ps.getD j pd0).2.2.2.2.2 r c)) ∧ ((ps.getD j pd0).1 = 17 → ∀ t c l r, arP (E (ps.getD j pd0).2.2.2.2.2) (ps.getD j pd0) = some (t, c, l, r) → ∀ x y, t ≤ x → x ≤ c → l ≤ y → y ≤ r → CvL z b J sh (E (ps.getD j pd0).2.2.2.2.2) x y (V (ps.getD j pd0).2.2.2.2.2 x y))
def FoC (z : Z) (J : Nat → Prop) (pa : Nat) (ps : List Prt) : Prop := J pa ∧ zK z pa = 20 ∧ zN z pa = (ps.length : Int) ∧ ∀ i : Nat, i < ps.length → ∃ q, zO z pa i = some q ∧ PrtC z J q (ps.getD i pd0)
def EvC (z : Z) (b : Nat → Nat) (J : Nat → Prop) (sv sb : Nat → Nat) (E : Int → Sh) (V : Int → Int → Int → Lit) (ps : List Prt) (pa : Nat) : Prop := WkC z b J sv sb ∧ zO z (b 4) 9 = some pa ∧ FoC z J pa ps ∧ EnL z b J E V ps ∧ WfV ps ∧ 1 ≤ ps.length ∧ ps.length ≤ 60
section Ec
variable {z y : Z} {b sv sb : Nat → Nat} {J : Nat → Prop} {E : Int → Sh} {V : Int → Int → Int → Lit} {ps : List Prt} {pa : Nat}
theorem ShC_wk (K : WkC z b J sv sb) (f : FrZ (WkW b sv sb) z y) {sh : Nat} {h : Sh} (hs : ShC z J sh h) : ShC y J sh h := ShC_fr f (fun a i ha => wk_J K ha i) (fun a i ha w => absurd w (wk_k K (by rw [ha]; decide) (by rw [ha]; decide) (by rw [ha]; decide) i)) hs
theorem CvL_wk (K : WkC z b J sv sb) (f : FrZ (WkW b sv sb) z y) {sh : Nat} {h : Sh} {r c : Int} {l : Lit} (hs : ShC z J sh h) (H : CvL z b J sh h r c l) : CvL y b J sh h r c l := by
  obtain ⟨h1, h2⟩ := H
  refine ⟨h1, ?_⟩
  have k7 := ShC_7 hs
  match e : h.2.2.2 r c with
  | none => rw [e] at h2; exact h2
  | some (kd, li, q) =>
    rw [e] at h2
    simp only at h2 ⊢
    by_cases c5 : kd = 5
    · rw [if_pos c5] at h2 ⊢
      obtain ⟨va, x, xb, ⟨v1, v2, v3, v4⟩, v5, v6, v7⟩ := h2
      have kv : zK z va ≠ 0 := by rw [v3]; decide
      refine ⟨va, x, xb, ⟨(f.2 sh 3 (by rw [k7]; decide) (wk_k K (by rw [k7]; decide) (by rw [k7]; decide) (by rw [k7]; decide) 3)).2.2.trans v1, v2, (f.1 va kv).1.trans v3, by rw [(f.1 va kv).2]; exact v4⟩, (f.2 va _ kv (v2.elim (fun w => wk_J K w _) (fun w => by rw [w]; exact wk_b K (by decide) (by decide) _))).2.2.trans v5, v6, VlS_fr v7.1 f (wk_J K v6.1 0) (wk_J K v6.1 1) (wk_J K v6.1 2) (fun i => wk_J K v6.2 i), ?_⟩
      rw [(f.1 xb (by rw [v7.1.1.2.2.2]; decide)).2]; exact v7.2
    · rw [if_neg c5] at h2 ⊢; exact h2
theorem EnL_wk (K : WkC z b J sv sb) (f : FrZ (WkW b sv sb) z y) (H : EnL z b J E V ps) : EnL y b J E V ps := by
  intro j hj c
  obtain ⟨sh, h1, h2, h3, h4⟩ := H j hj c
  refine ⟨sh, ?_, ShC_wk K f h2, fun a1 a2 r q a3 => CvL_wk K f h2 (h3 a1 a2 r q a3), fun a1 t q l r a2 x w x0 x1 y0 y1 => CvL_wk K f h2 (h4 a1 t q l r a2 x w x0 x1 y0 y1)⟩
  unfold ShV at h1 ⊢
  by_cases cv : (ps.getD j pd0).2.2.2.2.2 < 0
  · rw [if_pos cv] at h1 ⊢
    exact (f.2 (b 4) 8 (by rw [cK K.1 4 rfl rfl]; decide) (wk_4 K (by decide))).2.2.trans h1
  · rw [if_neg cv] at h1 ⊢
    exact ⟨h1.1, (f.2 (b 18) _ (by rw [cK K.1 18 rfl rfl]; decide) (wk_b K (by decide) (by decide) _)).2.2.trans h1.2⟩
theorem FoC_wk (K : WkC z b J sv sb) (f : FrZ (WkW b sv sb) z y) (H : FoC z J pa ps) : FoC y J pa ps := by
  obtain ⟨h1, h2, h3, h4⟩ := H
  have kp : zK z pa ≠ 0 := by rw [h2]; decide
  refine ⟨h1, (f.1 pa kp).1.trans h2, (f.1 pa kp).2.trans h3, fun i hi => ?_⟩
  obtain ⟨q, q1, q2⟩ := h4 i hi
  exact ⟨q, (f.2 pa i kp (wk_J K h1 i)).2.2.trans q1, PrtC_fr f (fun a i ha => wk_J K ha i) q2⟩
theorem EvC_wk (H : EvC z b J sv sb E V ps pa) (f : FrZ (WkW b sv sb) z y) : EvC y b J sv sb E V ps pa := by
  obtain ⟨K, h2, h3, h4, h5⟩ := H
  exact ⟨WkC_fr K f, (f.2 (b 4) 9 (by rw [cK K.1 4 rfl rfl]; decide) (wk_4 K (by decide))).2.2.trans h2, FoC_wk K f h3, EnL_wk K f h4, h5⟩
theorem EnL_ok (h : EnL z b J E V ps) : svOk (svE E V ps) ∧ avOk (avE E V ps) ∧ plOk (plE E ps) := by
  have ho : ∀ j : Nat, ((ps.getD j pd0).1 = 16 ∨ (ps.getD j pd0).1 = 17) → j < ps.length := fun j c => by
    by_cases hj : j < ps.length
    · exact hj
    · have := op_out hj; omega
  refine ⟨fun j l hl => ?_, fun j L hL => ?_, fun j r c hp => ?_⟩
  · unfold svE at hl
    split at hl
    · next c =>
      obtain ⟨sh, -, -, h4, -⟩ := h j (ho j (Or.inl c.1)) (Or.inl c.1)
      cases e : spP (E (ps.getD j pd0).2.2.2.2.2) (ps.getD j pd0) with
      | none => rw [e] at hl; cases hl
      | some t => rw [e] at hl; cases hl; exact (h4 c.1 c.2 t.1 t.2 e).1
    · cases hl
  · unfold avE at hL
    split at hL
    · next c =>
      obtain ⟨sh, -, hs, -, h5⟩ := h j (ho j (Or.inr c)) (Or.inr c)
      have hb := ShC_b hs
      cases e : arP (E (ps.getD j pd0).2.2.2.2.2) (ps.getD j pd0) with
      | none => rw [e] at hL; cases hL
      | some x =>
        obtain ⟨t, q, l, r⟩ := x
        rw [e] at hL
        cases hL
        have a := arP_b hb e
        have ln := arL_len (V (ps.getD j pd0).2.2.2.2.2) (t := t) (b := q) (l := l) (r := r) (by omega) (by omega) (by omega) (by omega)
        have sz := ar_s (t := t) (b := q) (l := l) (r := r) (by omega) (by omega) (by omega) (by omega)
        refine ⟨by show (arL _ (t, q, l, r)).length ≤ 320; omega, fun w hy => ?_⟩
        have hy : w ∈ arL (V (ps.getD j pd0).2.2.2.2.2) (t, q, l, r) := hy
        unfold arL at hy
        obtain ⟨k, hk, rfl⟩ := List.mem_map.mp hy
        rw [List.mem_range] at hk
        have hk : k < ((q - t + 1) * (r - l + 1)).toNat := hk
        have ak := ar_k (t := t) (b := q) (l := l) (r := r) (k := (k : Int)) (by omega) (by omega) (by omega) (by omega)
        exact (h5 c t q l r e _ _ ak.1.1 ak.1.2 ak.2.1 ak.2.2).1
    · cases hL
  · unfold plE at hp
    split at hp
    · next c =>
      obtain ⟨sh, -, hs, -⟩ := h j (ho j (Or.inl c)) (Or.inl c)
      have := spP_b (ShC_b hs) hp
      omega
    · cases hp
theorem EvC_ok (H : EvC z b J sv sb E V ps pa) : svOk (svE E V ps) ∧ avOk (avE E V ps) ∧ plOk (plE E ps) := EnL_ok H.2.2.2.1
theorem EvC_V (H : EvC z b J sv sb E V ps pa) {i : Nat} (hi : i < ps.length) : VOk (EvA E V ps i) := by
  obtain ⟨h1, h2, h3⟩ := EvC_ok H
  exact VOk_ev H.2.2.2.2.1 h1 h2 h3 _ i (Nat.lt_succ_self i) hi
end Ec
/-- the area that was found, with the values of its cells -/
def ArC (z : Z) (b : Nat → Nat) (J : Nat → Prop) (sh : Nat) (h : Sh) (f : Int → Int → Lit) (t c l r : Int) : Prop := FdC z b sh t c l r ∧ ShC z J sh h ∧ ((0 ≤ t ∧ t ≤ c ∧ c < h.1.1 ∧ c < 32) ∧ 0 ≤ l ∧ l ≤ r ∧ r < h.1.2 ∧ r < 10) ∧ ∀ x y, t ≤ x → x ≤ c → l ≤ y → y ≤ r → CvL z b J sh h x y (f x y)
theorem arL_xy (f : Int → Int → Lit) {t c l r x y : Int} (hx : t ≤ x ∧ x ≤ c) (hy : l ≤ y ∧ y ≤ r) (d : Lit) : (0 ≤ (x - t) * (r - l + 1) + (y - l) ∧ (x - t) * (r - l + 1) + (y - l) < (c - t + 1) * (r - l + 1)) ∧ (arL f (t, c, l, r)).getD ((x - t) * (r - l + 1) + (y - l)).toNat d = f x y := by
  have h0 : 0 ≤ (x - t) * (r - l + 1) := Int.mul_nonneg (by omega) (by omega)
  have h1 : (x - t) * (r - l + 1) + (r - l + 1) ≤ (c - t + 1) * (r - l + 1) := by
    have := Int.mul_le_mul_of_nonneg_right (a := x - t + 1) (b := c - t + 1) (c := r - l + 1) (by omega) (by omega)
    rw [Int.add_mul, Int.one_mul] at this
    exact this
  refine ⟨⟨by omega, by omega⟩, ?_⟩
  have ln : (arL f (t, c, l, r)).length = ((c - t + 1) * (r - l + 1)).toNat := by unfold arL; rw [List.length_map, List.length_range]
  rw [arL_at f (by rw [ln]; omega), Int.toNat_of_nonneg (by omega)]
  congr 1
  · rw [Int.add_comm ((x - t) * (r - l + 1)), Int.add_mul_ediv_right _ _ (by omega), Int.ediv_eq_zero_of_lt (by omega) (by omega)]; omega
  · rw [Int.add_comm ((x - t) * (r - l + 1)), Int.add_mul_emod_self_right, Int.emod_eq_of_lt (by omega) (by omega)]; omega
theorem matV_1n (w : Lit) : ∀ (L : List Lit) (a : Int × Int), (L.foldl (fun s c => (s.1 + 1, if s.2 = 0 ∧ lkV w c = true then s.1 + 1 else s.2)) a).1 = a.1 + L.length
  | [], a => by simp
  | x :: L, a => by
    rw [List.foldl_cons, matV_1n w L, List.length_cons]
    simp only
    omega
theorem matV_e (w : Lit) : ∀ (L : List Lit) (a : Int × Int), a.2 ≠ 0 → (L.foldl (fun s c => (s.1 + 1, if s.2 = 0 ∧ lkV w c = true then s.1 + 1 else s.2)) a).2 = a.2
  | [], a, _ => rfl
  | x :: L, a, h => by
    rw [List.foldl_cons]
    have e : (if a.2 = 0 ∧ lkV w x = true then a.1 + 1 else a.2) = a.2 := if_neg (fun z => h z.1)
    rw [e]
    exact matV_e w L (a.1 + 1, a.2) h
section Sr
variable {z : Z} {b sv sb : Nat → Nat} {J : Nat → Prop} {sh : Nat} {h : Sh} {f : Int → Int → Lit} {t c l r : Int}
/-- one row -/
theorem k9_s27 {a : Option Nat} {d bd : Nat} {w : Lit} {op x k : Int} {s0 : Int} {Q : (Int × Int × Int) ⊕ (Int ⊕ Int) → Prop} (K : WkC z b J sv sb) (A : ArC z b J sh h f t c l r) (Vw : VlS z d bd w) (ow : VOk w) (w4 : w.1 ≠ 4) (hop : op = 34 ∨ op = 35) (hx : t ≤ x ∧ x ≤ c) (hk : k = (x - t) * (r - l + 1)) (hm : op = 34 → ((arL f (t, c, l, r)).take k.toNat |> matV w).2 = 0) (hs0 : s0 = if op = 34 then 0 else cntV w ((arL f (t, c, l, r)).take k.toNat)) (h1 : op = 34 → (matV w (arL f (t, c, l, r))).2 ≠ 0 → Q (.inr (.inr (matV w (arL f (t, c, l, r))).2))) (h2 : (op = 34 → ((arL f (t, c, l, r)).take (k + (r - l + 1)).toNat |> matV w).2 = 0) → Q (.inl (k + (r - l + 1), (if op = 34 then 0 else cntV w ((arL f (t, c, l, r)).take (k + (r - l + 1)).toNat)), x + 1 + 1))) : F_X9_search_27 (b 4) op a (some d) k s0 (x + 1) (l + 1) z Q := by
  obtain ⟨⟨d1, d2, d3, d4, d5⟩, hs, ⟨⟨t0, t1, t2, t3⟩, l0, l1, l2, l3⟩, hcv⟩ := A
  have ln : ((arL f (t, c, l, r)).length : Int) = (c - t + 1) * (r - l + 1) := arL_len f t1 l1 (by omega) (by omega)
  have sz := ar_s (t := t) (b := c) (l := l) (r := r) (by omega) (by omega) (by omega) (by omega)
  have kr := (arL_xy f hx (y := r) ⟨l1, Int.le_refl _⟩ (0, 0, [])).1
  have k0 := (arL_xy f hx (y := l) ⟨Int.le_refl _, l1⟩ (0, 0, [])).1
  unfold F_X9_search_27
  refine lp_I (fun q => (l + 1 ≤ q.2.2 ∧ q.2.2 ≤ r + 2) ∧ q.1 = k + (q.2.2 - (l + 1)) ∧ (op = 34 → (matV w ((arL f (t, c, l, r)).take q.1.toNat)).2 = 0) ∧ q.2.1 = (if op = 34 then 0 else cntV w ((arL f (t, c, l, r)).take q.1.toNat))) (fun q => (r + 2 - q.2.2).toNat) ?_ (k, s0, l + 1) (And.intro ⟨Int.le_refl _, by show l + 1 ≤ r + 2; omega⟩ (And.intro (by show k = k + (l + 1 - (l + 1)); omega) (And.intro hm hs0)))
  rintro G ⟨p, s, q⟩ ⟨⟨q0, q1⟩, e1, e2, e3⟩ ih
  simp only at q0 q1 e1 e2 e3
  show L_X9_search_27 (b 4) op a (some d) p s (x + 1) q z _
  unfold L_X9_search_27
  refine ⟨cK K.1 4 rfl rfl, ?_⟩
  rw [d5]
  by_cases cq : r + 1 < q
  · rw [if_pos cq]
    have ep : p = k + (r - l + 1) := by omega
    show Q (.inl (p, s, w32 (x + 1 + 1)))
    rw [w32e (x := x + 1 + 1) (by omega) (by omega), e3, ep]
    exact h2 (fun z => by rw [← ep]; exact e2 z)
  rw [if_neg cq]
  obtain ⟨yc, rfl⟩ : ∃ yc, q = yc + 1 := ⟨q - 1, by omega⟩
  have cy := arL_xy f hx (y := yc) (l := l) (r := r) (by omega) (0, 0, [])
  have hcx := hcv x yc hx.1 hx.2 (by omega) (by omega)
  have ei : (x - t) * (r - l + 1) + (yc - l) = p := by omega
  rw [ei] at cy
  obtain ⟨⟨cy1, cy2⟩, cy3⟩ := cy
  refine k9_met K d1 hs (by omega) (by omega) (by omega) (by omega) hcx ?_
  intro v vb Vv nv
  have ov := hcx.1
  generalize f x yc = cl at *
  have tk := fold_tk (fun s c => if lkV w c = true then s + 1 else s) (L := arL f (t, c, l, r)) (k := p.toNat) (by omega) (0, 0, []) (0 : Int)
  have tm := fold_tk (fun (s : Int × Int) c => (s.1 + 1, if s.2 = 0 ∧ lkV w c = true then s.1 + 1 else s.2)) (L := arL f (t, c, l, r)) (k := p.toNat) (by omega) (0, 0, []) ((0, 0) : Int × Int)
  rw [cy3] at tk tm
  have pn : (p + 1).toNat = p.toNat + 1 := by omega
  have cb : 0 ≤ cntV w ((arL f (t, c, l, r)).take p.toNat) ∧ cntV w ((arL f (t, c, l, r)).take p.toNat) ≤ 1000 := by
    have key : ∀ (L : List Lit) (s : Int), s ≤ L.foldl (fun s c => if lkV w c = true then s + 1 else s) s ∧ L.foldl (fun s c => if lkV w c = true then s + 1 else s) s ≤ s + L.length := by
      intro L
      induction L with
      | nil => intro s; simp
      | cons y L ih =>
        intro s
        rw [List.foldl_cons, List.length_cons]
        by_cases c : lkV w y = true
        · rw [if_pos c]; have := ih (s + 1); omega
        · rw [if_neg c]; have := ih s; omega
    have := key ((arL f (t, c, l, r)).take p.toNat) 0
    rw [List.length_take] at this
    unfold cntV
    omega
  -- the next cell: not the same
  have no : lkV w cl = false → G (p + 1, s, yc + 1 + 1) := fun hl => by
    refine ih (p + 1, s, yc + 1 + 1) (And.intro ⟨by show l + 1 ≤ yc + 1 + 1; omega, by show yc + 1 + 1 ≤ r + 2; omega⟩ (And.intro (by show p + 1 = k + (yc + 1 + 1 - (l + 1)); omega) (And.intro (fun ho => ?_) ?_))) (by show (r + 2 - (yc + 1 + 1)).toNat < (r + 2 - (yc + 1)).toNat; omega)
    · show (matV w ((arL f (t, c, l, r)).take (p + 1).toNat)).2 = 0
      have := e2 ho
      unfold matV at this ⊢
      rw [pn, tm]
      simp only
      rw [hl]
      rw [if_neg (by simp)]
      exact this
    · show s = if op = 34 then 0 else cntV w ((arL f (t, c, l, r)).take (p + 1).toNat)
      rw [e3]
      by_cases ho : op = 34
      · rw [if_pos ho, if_pos ho]
      · rw [if_neg ho, if_neg ho]
        unfold cntV
        rw [pn, tk, hl]
        rfl
  have no2 : ∀ R : (Int × Int × Int) ⊕ ((Int × Int) ⊕ Int) → Prop, (∀ s', G s' → R (.inl s')) → lkV w cl = false → F_X9_search_97 (b 4) op a (some d) (w32 (p + 1)) s (x + 1) (yc + 1) z R := fun R hR hl => by
    unfold F_X9_search_97
    rw [w32e (x := p + 1) (by omega) (by omega), w32e (x := yc + 1 + 1) (by omega) (by omega)]
    exact hR _ (no hl)
  refine ⟨v, rfl, Vv.1.1, ?_⟩
  rw [Vv.1.2.1]
  by_cases c4 : cl.1 = 4
  · rw [if_pos c4]
    refine no2 _ (fun _ h => h) ?_
    unfold lkV
    rw [decide_eq_false_iff_not]
    exact fun z => z.1 c4
  rw [if_neg c4]
  have hk2 := asO_kk ov ow c4 w4
  refine k_compares Vv Vw (fun cc => ?_) (fun cc => ?_)
  · rw [if_neg (by decide)]
    refine k_compared Vv Vw ov ow c4 w4 cc (fun rr r0 r1 => ?_)
    by_cases cr : rr = 0
    · rw [if_pos cr]
      have hl : lkV w cl = true := by
        unfold lkV
        rw [decide_eq_true_eq]
        exact ⟨c4, hk2.mpr cc, r0.mp cr⟩
      by_cases ho : op = 34
      · rw [if_pos ho]
        show Q (.inr (.inr (w32 (p + 1))))
        rw [w32e (x := p + 1) (by omega) (by omega)]
        have e2 := e2 ho
        have m1 := matV_1n w ((arL f (t, c, l, r)).take p.toNat) (0, 0)
        rw [List.length_take] at m1
        have m2 := fold_td (fun (s : Int × Int) c => (s.1 + 1, if s.2 = 0 ∧ lkV w c = true then s.1 + 1 else s.2)) (arL f (t, c, l, r)) (p.toNat + 1) ((0, 0) : Int × Int)
        have ev : (matV w (arL f (t, c, l, r))).2 = p + 1 := by
          unfold matV at e2 ⊢
          rw [m2, tm, matV_e]
          · simp only
            rw [if_pos ⟨e2, hl⟩, m1]; simp only; omega
          · simp only
            rw [if_pos ⟨e2, hl⟩, m1]; simp only; omega
        rw [← ev]
        exact h1 ho (by omega)
      · rw [if_neg ho]
        unfold F_X9_search_97
        rw [if_neg ho] at e3
        rw [w32e (x := p + 1) (by omega) (by omega), w32e (x := yc + 1 + 1) (by omega) (by omega), w32e (x := s + 1) (by omega) (by omega)]
        refine ih (p + 1, s + 1, yc + 1 + 1) (And.intro ⟨by show l + 1 ≤ yc + 1 + 1; omega, by show yc + 1 + 1 ≤ r + 2; omega⟩ (And.intro (by show p + 1 = k + (yc + 1 + 1 - (l + 1)); omega) (And.intro (fun z => absurd z ho) ?_))) (by show (r + 2 - (yc + 1 + 1)).toNat < (r + 2 - (yc + 1)).toNat; omega)
        show s + 1 = if op = 34 then 0 else cntV w ((arL f (t, c, l, r)).take (p + 1).toNat)
        rw [if_neg ho, e3]
        unfold cntV
        rw [pn, tk, if_pos hl]
    · rw [if_neg cr]
      refine no2 _ (fun _ h => h) ?_
      unfold lkV
      rw [decide_eq_false_iff_not]
      exact fun z => cr (r0.mpr z.2.2)
  · rw [if_pos rfl]
    refine no2 _ (fun _ h => h) ?_
    unfold lkV
    rw [decide_eq_false_iff_not]
    exact fun z => cc (hk2.mp z.2.1)
end Sr
/-- the writes of the Worker at its fields and at the slots from s on -/
def WkT (b sv sb : Nat → Nat) (s : Nat) (x : Nat) (i : Int) : Prop := WB b wWk x i ∨ ∃ m : Nat, (s ≤ m ∧ m < 60) ∧ VW (sv m) (sb m) x i
def wWl : WR := [(4, some 11), (4, some 12), (4, some 13), (4, some 14), (4, some 15), (4, some 16), (4, some 17), (4, some 18), (4, some 19), (4, some 20)]
/-- the same, but for the number of slots -/
def WkU (b sv sb : Nat → Nat) (s : Nat) (x : Nat) (i : Int) : Prop := WB b wWl x i ∨ ∃ m : Nat, (s ≤ m ∧ m < 60) ∧ VW (sv m) (sb m) x i
section Cp
variable {z y : Z} {b sv sb : Nat → Nat} {J : Nat → Prop} {E : Int → Sh} {V : Int → Int → Int → Lit} {ps : List Prt} {pa : Nat}
theorem wt_W {s : Nat} {u v : Z} (f : FrZ (WkT b sv sb s) u v) : FrZ (WkW b sv sb) u v := FrZ_mono f (fun _ _ _ w => w.elim Or.inl (fun ⟨m, h1, h2⟩ => Or.inr ⟨m, h1.2, h2⟩))
theorem wt_w {s : Nat} {L : WR} (hL : ∀ t ∈ L, t ∈ wWk) {u v : Z} (f : FrZ (WB b L) u v) : FrZ (WkT b sv sb s) u v := FrZ_mono f (fun _ _ _ w => Or.inl (WB_up hL w))
theorem wt_m {s m : Nat} (h : s ≤ m) (hm : m < 60) {u v : Z} (f : FrZ (VW (sv m) (sb m)) u v) : FrZ (WkT b sv sb s) u v := FrZ_mono f (fun _ _ _ w => Or.inr ⟨m, ⟨h, hm⟩, w⟩)
theorem wt_u {s s' : Nat} (h : s' ≤ s) {u v : Z} (f : FrZ (WkT b sv sb s) u v) : FrZ (WkT b sv sb s') u v := FrZ_mono f (fun _ _ _ w => w.elim Or.inl (fun ⟨m, h1, h2⟩ => Or.inr ⟨m, ⟨by omega, h1.2⟩, h2⟩))
theorem VX_t (K : WkC z b J sv sb) {s n : Nat} (hn : n < s) (h60 : n < 60) (f : FrZ (WkT b sv sb s) z y) {l : Lit} (X : VX z (sv n) (sb n) l) : VX y (sv n) (sb n) l ∧ zI y (sv n) 3 = zI z (sv n) 3 := by
  have q := K.2.2.2.2.1 n h60 4 (by decide)
  have n1 : ∀ i, ¬ WkT b sv sb s (sv n) i := by
    rintro i (w | ⟨m, hm, w⟩)
    · exact q.1 (WB_4 (by decide) w).1
    · exact (VW_n (K.2.2.1.1 m hm.2).2 ⟨X.1.1.1, X.1.1.2.2.2⟩ (fun e => by have := K.2.2.1.2.1 m n hm.2 h60 e; omega) (fun e => by have := K.2.2.1.2.2 m n hm.2 h60 e; omega)).1 i w
  have n2 : ∀ i, ¬ WkT b sv sb s (sb n) i := by
    rintro i (w | ⟨m, hm, w⟩)
    · exact q.2 (WB_4 (by decide) w).1
    · exact (VW_n (K.2.2.1.1 m hm.2).2 ⟨X.1.1.1, X.1.1.2.2.2⟩ (fun e => by have := K.2.2.1.2.1 m n hm.2 h60 e; omega) (fun e => by have := K.2.2.1.2.2 m n hm.2 h60 e; omega)).2 i w
  exact ⟨VX_s K h60 f n1 n2 X, (f.2 (sv n) 3 (by rw [X.1.1.1]; decide) (n1 3)).1⟩
theorem wu_T {s : Nat} {u v : Z} (f : FrZ (WkU b sv sb s) u v) : FrZ (WkT b sv sb s) u v := FrZ_mono f (fun _ _ _ w => w.elim (fun w => Or.inl (WB_up (by decide) w)) Or.inr)
theorem wu_W {s : Nat} {u v : Z} (f : FrZ (WkU b sv sb s) u v) : FrZ (WkW b sv sb) u v := wt_W (wu_T f)
theorem wu_w {s : Nat} {L : WR} (hL : ∀ t ∈ L, t ∈ wWl) {u v : Z} (f : FrZ (WB b L) u v) : FrZ (WkU b sv sb s) u v := FrZ_mono f (fun _ _ _ w => Or.inl (WB_up hL w))
theorem wu_m {s m : Nat} (h : s ≤ m) (hm : m < 60) {u v : Z} (f : FrZ (VW (sv m) (sb m)) u v) : FrZ (WkU b sv sb s) u v := FrZ_mono f (fun _ _ _ w => Or.inr ⟨m, ⟨h, hm⟩, w⟩)
theorem wu_10 (K : WkC z b J sv sb) {s : Nat} (f : FrZ (WkU b sv sb s) z y) : zI y (b 4) 10 = zI z (b 4) 10 := by
  refine (f.2 (b 4) 10 (by rw [cK K.1 4 rfl rfl]; decide) ?_).1
  rintro (w | ⟨m, hm, w⟩)
  · obtain ⟨t, h1, -, h3⟩ := (WB_4 (by decide) w).2
    simp only [wWl, List.mem_cons, List.not_mem_nil, or_false] at h1
    rcases h1 with ht | ht | ht | ht | ht | ht | ht | ht | ht | ht <;> subst ht <;> (rcases h3 with h3 | h3 <;> (first | (cases h3; done) | (injection h3 with h3; omega)))
  · have q := K.2.2.2.2.1 m hm.2 4 (by decide)
    rcases w with w | w
    · exact q.1 w.1.symm
    · exact q.2 w.symm
theorem k9_search {sh : Nat} {h : Sh} {f : Int → Int → Lit} {t c l r : Int} {a ba d bd : Nat} {w : Lit} {op : Int} {P : Z → Prop} (K : WkC z b J sv sb) (A : ArC z b J sh h f t c l r) (B : VlB z a ba) (Vw : VlS z d bd w) (ow : VOk w) (w4 : w.1 ≠ 4) (hop : op = 34 ∨ op = 35) (p : ∀ y, VlS y a ba (lokV op (some (arL f (t, c, l, r))) w) → zI y a 3 = 0 → FrZ (VW a ba) z y → P y) : F_X9_search (b 4) op (some a) (some d) z P := by
  unfold lokV at p
  rw [if_neg w4] at p
  simp only at p
  rw [if_neg (by omega)] at p
  have A' := A
  obtain ⟨⟨d1, d2, d3, d4, d5⟩, hs, ⟨⟨t0, t1, t2, t3⟩, l0, l1, l2, l3⟩, hcv⟩ := A'
  have ln : ((arL f (t, c, l, r)).length : Int) = (c - t + 1) * (r - l + 1) := arL_len f t1 l1 (by omega) (by omega)
  have k4 : zK z (b 4) = 10 := cK K.1 4 rfl rfl
  unfold F_X9_search
  refine ⟨k4, ?_⟩
  rw [d2]
  unfold F_X9_search_12
  refine lp_I (fun q => ∃ x, (t ≤ x ∧ x ≤ c + 1) ∧ q.2.2 = x + 1 ∧ q.1 = (x - t) * (r - l + 1) ∧ (op = 34 → (matV w ((arL f (t, c, l, r)).take q.1.toNat)).2 = 0) ∧ q.2.1 = (if op = 34 then 0 else cntV w ((arL f (t, c, l, r)).take q.1.toNat))) (fun q => (c + 2 - q.2.2).toNat) ?_ (0, 0, t + 1) ⟨t, ⟨Int.le_refl _, by omega⟩, rfl, by show (0 : Int) = _; rw [Int.sub_self, Int.zero_mul], fun _ => rfl, by show (0 : Int) = if op = 34 then 0 else _; split; rfl; rfl⟩
  rintro G ⟨k, s, q⟩ ⟨x, ⟨x0, x1⟩, e1, e2, e3, e4⟩ ih
  simp only at e1 e2 e3 e4
  show L_X9_search_12 (b 4) op (some a) (some d) k s q z _
  unfold L_X9_search_12
  refine ⟨k4, ?_⟩
  rw [d3, d4, e1]
  by_cases cq : c + 1 < x + 1
  · rw [if_pos cq]
    have ex : x = c + 1 := by omega
    have ek : k.toNat = (arL f (t, c, l, r)).length := by rw [e2, ex, show c + 1 - t = c - t + 1 by omega]; omega
    rw [ek, List.take_length] at e3 e4
    show (if op = 34 then F_X9_search_121 op s (some a) 4 z P else F_X9_search_121 op s (some a) 1 z P)
    unfold F_X9_search_121 F_X9_search_136
    by_cases ho : op = 34
    · rw [if_pos ho, if_pos ho]
      rw [if_neg (by omega), if_pos (e3 ho)] at p
      exact ⟨a, rfl, B.1, k_set B (by decide) p⟩
    · rw [if_neg ho, if_neg ho]
      rw [if_neg ho] at e4
      rw [if_pos (by omega), ← e4] at p
      exact ⟨a, rfl, B.1, k_set B (by decide) p⟩
  · rw [if_neg cq]
    refine k9_s27 K A Vw ow w4 hop ⟨x0, by omega⟩ e2 e3 e4 (fun ho hne => ?_) (fun hm => ?_)
    · rw [if_neg (by omega), if_neg hne] at p
      show ∃ q, some a = some q ∧ zK z q = 9 ∧ F_X8_set q 1 _ z _
      exact ⟨a, rfl, B.1, k_set B (by decide) p⟩
    · have ek : k + (r - l + 1) = (x + 1 - t) * (r - l + 1) := by
        rw [e2, show x + 1 - t = x - t + 1 by omega, Int.add_mul (x - t) 1, Int.one_mul]
      refine ih (k + (r - l + 1), _, x + 1 + 1) ⟨x + 1, ⟨by omega, by omega⟩, rfl, ek, hm, rfl⟩ (by show (c + 2 - (x + 1 + 1)).toNat < (c + 2 - q).toNat; omega)
theorem k9_nth {sh : Nat} {h : Sh} {f : Int → Int → Lit} {t c l r : Int} {a ba d bd : Nat} {w : Lit} {P : Z → Prop} (K : WkC z b J sv sb) (A : ArC z b J sh h f t c l r) (B : VlB z a ba) (Vw : VlS z d bd w) (ow : VOk w) (w4 : w.1 ≠ 4) (p : ∀ y, VlS y a ba (lokV 33 (some (arL f (t, c, l, r))) w) → zI y a 3 = 0 → FrZ (VW a ba) z y → P y) : F_X9_tellNth (b 4) (some a) (some d) z P := by
  unfold lokV at p
  rw [if_neg w4] at p
  simp only [if_true] at p
  obtain ⟨⟨d1, d2, d3, d4, d5⟩, hs, ⟨⟨t0, t1, t2, t3⟩, l0, l1, l2, l3⟩, hcv⟩ := A
  have ln : ((arL f (t, c, l, r)).length : Int) = (c - t + 1) * (r - l + 1) := arL_len f t1 l1 (by omega) (by omega)
  have sz := ar_s (t := t) (b := c) (l := l) (r := r) (by omega) (by omega) (by omega) (by omega)
  unfold F_X9_tellNth F_X9_tellNth_67 F_X9_tellNth_111
  refine ⟨cK K.1 4 rfl rfl, d, rfl, Vw.1.1, ?_⟩
  rw [d2, d3, d4, d5, w32e (x := c + 1 - (t + 1)) (by omega) (by omega), w32e (x := r + 1 - (l + 1)) (by omega) (by omega), show c + 1 - (t + 1) + 1 = c - t + 1 by omega, show r + 1 - (l + 1) + 1 = r - l + 1 by omega, w32e (x := c - t + 1) (by omega) (by omega), w32e (x := r - l + 1) (by omega) (by omega), w32e (x := (c - t + 1) * (r - l + 1)) (by omega) (by omega)]
  refine k_serves Vw (fun cs => ?_) (fun cs => ?_)
  · rw [if_neg (by decide), VlS_g Vw (by omega)]
    rw [if_pos cs] at p
    by_cases c1 : w.2.1 < 1
    · rw [if_pos c1]
      rw [if_pos (Or.inl c1)] at p
      exact ⟨a, rfl, B.1, k_set B (by decide) p⟩
    rw [if_neg c1]
    by_cases c2 : (c - t + 1) * (r - l + 1) < w.2.1
    · rw [if_pos c2]
      rw [if_pos (by omega)] at p
      exact ⟨a, rfl, B.1, k_set B (by decide) p⟩
    rw [if_neg c2, if_pos (by omega), w32e (x := w.2.1) (by omega) (by omega), w32e (x := w.2.1 - 1) (by omega) (by omega), tdivE (by omega), tmodE (by omega)]
    rw [if_neg (by omega)] at p
    have ak := ar_k (t := t) (b := c) (l := l) (r := r) (k := w.2.1 - 1) t1 l1 (by omega) (by omega)
    have at0 := arL_at f (t := t) (b := c) (l := l) (r := r) (k := (w.2.1 - 1).toNat) (d := erL 1) (by omega)
    rw [Int.toNat_of_nonneg (by omega)] at at0
    rw [at0] at p
    refine ⟨by omega, by omega, ?_⟩
    have q0 : 0 ≤ (w.2.1 - 1) / (r - l + 1) ∧ (w.2.1 - 1) / (r - l + 1) ≤ 320 := by omega
    have q1 : 0 ≤ (w.2.1 - 1) % (r - l + 1) ∧ (w.2.1 - 1) % (r - l + 1) ≤ 320 := by omega
    have hcx := hcv _ _ ak.1.1 ak.1.2 ak.2.1 ak.2.2
    generalize (w.2.1 - 1) / (r - l + 1) = A at *
    generalize (w.2.1 - 1) % (r - l + 1) = C at *
    rw [w32e (x := A) (by omega) (by omega), w32e (x := C) (by omega) (by omega), w32e (x := t + 1 + A) (by omega) (by omega), w32e (x := l + 1 + C) (by omega) (by omega), show t + 1 + A = t + A + 1 by omega, show l + 1 + C = l + C + 1 by omega]
    refine k9_met K d1 hs (by omega) (by omega) (by omega) (by omega) hcx (fun v vb Vv nv => ⟨a, rfl, B.1, ?_⟩)
    exact k_take B Vv (fun _ => ⟨(VOk_b hcx.1).1, nv⟩) p
  · rw [if_pos rfl]
    rw [if_neg cs] at p
    exact ⟨a, rfl, B.1, k_set B (by decide) p⟩
theorem k9_fp {s j : Nat} {P : Int → Z → Prop} (H : EvC z b J sv sb E V ps pa) (hj : j < ps.length) (hc : (ps.getD j pd0).1 = 16 ∨ (ps.getD j pd0).1 = 17) (X : VX z (sv s) (sb s) (6, (j : Int), [])) (hn : arP (E (ps.getD j pd0).2.2.2.2.2) (ps.getD j pd0) = none → ∀ y, FrZ (WB b wFi) z y → P 0 y) (hy : ∀ sh t c l r, ShC z J sh (E (ps.getD j pd0).2.2.2.2.2) → ((ps.getD j pd0).1 = 17 → ∀ x y, t ≤ x → x ≤ c → l ≤ y → y ≤ r → CvL z b J sh (E (ps.getD j pd0).2.2.2.2.2) x y (V (ps.getD j pd0).2.2.2.2.2 x y)) → arP (E (ps.getD j pd0).2.2.2.2.2) (ps.getD j pd0) = some (t, c, l, r) → ∀ y, FrZ (WB b wFi) z y → FdC y b sh t c l r → P 1 y) : F_X9_findsPlace (b 4) (some (sv s)) z P := by
  obtain ⟨K, h9, ⟨f1, f2, f3, f4⟩, en, W, n1, n60⟩ := H
  obtain ⟨q, q1, q2⟩ := f4 j hj
  obtain ⟨sh, s1, s2, s3, s4⟩ := en j hj hc
  have g := VlS_g X.1 (by show (6 : Int) ≠ 2; decide)
  have g : zG z (sv s) 2 = (j : Int) := g
  unfold F_X9_findsPlace F_X9_findsPlace_53 F_X9_findsPlace_54
  refine ⟨sv s, rfl, X.1.1.1, ?_⟩
  rw [X.1.1.2.1, if_pos rfl, g, if_neg (by omega)]
  refine ⟨cK K.1 4 rfl rfl, pa, h9, f2, ?_⟩
  rw [f3, if_neg (by omega), w32e (x := (j : Int)) (by omega) (by omega), q1]
  refine ⟨by omega, by omega, k9_finds K q2 s1 s2 (fun e y f => ?_) (fun t c l r e y f F => ?_)⟩
  · rw [if_pos rfl]; exact ⟨Or.inl rfl, hn e y f⟩
  · rw [if_neg (by decide)]; exact ⟨Or.inr rfl, hy sh t c l r s2 (fun c17 => s4 c17 t c l r e) e y f F⟩
/-- what stands where a place is wanted -/
def PlE (z : Z) (sv sb : Nat → Nat) (E : Int → Sh) (V : Int → Int → Int → Lit) (ps : List Prt) (s : Nat) (av : Option (List Lit)) : Prop := (∃ j : Nat, (j < ps.length ∧ (ps.getD j pd0).1 = 17) ∧ VX z (sv s) (sb s) (6, (j : Int), []) ∧ av = avE E V ps j) ∨ (∃ l, VX z (sv s) (sb s) l ∧ l.1 ≤ 4 ∧ av = none)
theorem k9_c48 {s s1 s2 : Nat} {w : Lit} {op : Int} {av : Option (List Lit)} {P : Z → Prop} (H : EvC z b J sv sb E V ps pa) (h0 : s < 60) (h1 : s1 < 60) (h2 : s2 < 60) (Ep : PlE z sv sb E V ps s1 av) (Vd : VX z (sv s2) (sb s2) w) (ow : VOk w) (hop : op = 33 ∨ op = 34 ∨ op = 35) (p : ∀ y, VX y (sv s) (sb s) (lokV op av w) → zI y (sv s) 3 = 0 → FrZ (WkU b sv sb s) z y → P y) : F_X9_callOfPlace_48 (b 4) op (some (sv s)) (some (sv s1)) (some (sv s2)) z P := by
  have K := H.1
  have B := (K.2.2.1.1 s h0).2
  unfold F_X9_callOfPlace_48 F_X9_callOfPlace_158
  refine ⟨sv s2, rfl, Vd.1.1.1, ?_⟩
  rw [Vd.1.1.2.1]
  by_cases c4 : w.1 = 4
  · rw [if_pos c4]
    have e := (VOk_e ow c4).1
    refine ⟨sv s, rfl, B.1, ?_⟩
    rw [VlS_g Vd.1 (by omega)]
    refine k_set B (by decide) (fun y g1 g2 g3 => p y ?_ g2 (wu_m (Nat.le_refl _) h0 g3))
    unfold lokV
    rw [if_pos c4, e]
    exact VX_of B g3 g1
  rw [if_neg c4]
  refine ⟨cK K.1 4 rfl rfl, ?_⟩
  have none0 : av = none → ∀ u, FrZ (WkU b sv sb s) z u → VlB u (sv s) (sb s) → ∃ a_86, some (sv s) = some a_86 ∧ zK u a_86 = 9 ∧ F_X8_set a_86 4 1 u (fun z_86 => P z_86) := fun en u f Bu => by
    refine ⟨sv s, rfl, Bu.1, k_set Bu (by decide) (fun y g1 g2 g3 => p y ?_ g2 (FrZ_tr f (wu_m (Nat.le_refl _) h0 g3)))⟩
    unfold lokV
    rw [if_neg c4, en]
    exact VX_of Bu g3 g1
  rcases Ep with ⟨j, ⟨j1, j2⟩, Xj, ea⟩ | ⟨l, Xl, l4, ea⟩
  · refine k9_fp H j1 (Or.inr j2) Xj (fun e y f => ?_) (fun sh t c l r hs hcv e y f F => ?_)
    · rw [if_pos rfl]
      have fW : FrZ (WkU b sv sb s) z y := wu_w (by decide) f
      refine none0 ?_ y fW ((WkC_fr K (wu_W fW)).2.2.1.1 s h0).2
      rw [ea]; unfold avE; rw [if_pos j2, e]; rfl
    · rw [if_neg (by decide)]
      have fW : FrZ (WkU b sv sb s) z y := wu_w (by decide) f
      have Ky := WkC_fr K (wu_W fW)
      have By := (Ky.2.2.1.1 s h0).2
      have Vy := (VX_w K (by decide) h2 f Vd).1
      have hb := ShC_b hs
      have A : ArC y b J sh (E (ps.getD j pd0).2.2.2.2.2) (V (ps.getD j pd0).2.2.2.2.2) t c l r := ⟨F, ShC_wk K (wu_W fW) hs, arP_b hb e, fun x q x0 x1 y0 y1 => CvL_wk K (wu_W fW) hs (hcv j2 x q x0 x1 y0 y1)⟩
      have eav : av = some (arL (V (ps.getD j pd0).2.2.2.2.2) (t, c, l, r)) := by rw [ea]; unfold avE; rw [if_pos j2, e]; rfl
      rw [eav] at p
      have fin : ∀ u, VlS u (sv s) (sb s) (lokV op (some (arL (V (ps.getD j pd0).2.2.2.2.2) (t, c, l, r))) w) → zI u (sv s) 3 = 0 → FrZ (VW (sv s) (sb s)) y u → P u := fun u g1 g2 g3 => p u (VX_of By g3 g1) g2 (FrZ_tr fW (wu_m (Nat.le_refl _) h0 g3))
      by_cases c33 : op = 33
      · rw [if_pos c33]
        rw [c33] at fin
        exact ⟨cK Ky.1 4 rfl rfl, k9_nth Ky A By Vy.1 ow c4 fin⟩
      · rw [if_neg c33, if_neg (by omega), if_neg (by omega)]
        exact ⟨cK Ky.1 4 rfl rfl, k9_search Ky A By Vy.1 ow c4 (by omega) fin⟩
  · unfold F_X9_findsPlace F_X9_findsPlace_53 F_X9_findsPlace_54
    refine ⟨sv s1, rfl, Xl.1.1.1, ?_⟩
    rw [Xl.1.1.2.1, if_neg (by omega)]
    refine ⟨Or.inl rfl, ?_⟩
    show (if (0 : Int) = 0 then _ else _)
    rw [if_pos rfl]
    exact none0 ea z FrZ_rf B
end Cp
