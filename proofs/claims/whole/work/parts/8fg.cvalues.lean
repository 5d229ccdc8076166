/-! ===== the system: the formulas one after the other ===== -/
def fI (h : Sh) (g : Int → Lit) : Int → Int → Lit := fun r c => g (r * h.1.2 + c)
/-- worked out so far -/
def DnI (h : Sh) (o : Int → Int) (m i : Int) : Prop := ciI h i ∨ ∃ q, (0 ≤ q ∧ q < m) ∧ o q = i
def Wx (b sv sb : Nat → Nat) (rv rb : Int → Nat) (h : Sh) (x : Nat) (i : Int) : Prop := WkW b sv sb x i ∨ WB b [(4, some 9)] x i ∨ ∃ j, FoN h j ∧ VW (rv j) (rb j) x i
/-- the value of a cell of a Sheet whose values are frozen -/
def CvJ (z : Z) (J : Nat → Prop) (sh : Nat) (h : Sh) (r c : Int) (l : Lit) : Prop := VOk l ∧ match h.2.2.2 r c with
  | none => l = (0, 0, [])
  | some (kd, li, _) => if kd = 5 then ∃ va x xb, (zO z sh 3 = some va ∧ J va ∧ zK z va = 22 ∧ r * h.1.2 + c < zN z va) ∧ zO z va (r * h.1.2 + c) = some x ∧ (J x ∧ J xb) ∧ VX z x xb l else l = li
theorem CvJ_L {z : Z} {b : Nat → Nat} {J : Nat → Prop} {sh : Nat} {h : Sh} {r c : Int} {l : Lit} (H : CvJ z J sh h r c l) : CvL z b J sh h r c l := by
  obtain ⟨h1, h2⟩ := H
  refine ⟨h1, ?_⟩
  match e : h.2.2.2 r c with
  | none => rw [e] at h2; exact h2
  | some (kd, li, q) =>
    rw [e] at h2
    simp only at h2 ⊢
    by_cases c5 : kd = 5
    · rw [if_pos c5] at h2 ⊢
      obtain ⟨va, x, xb, ⟨v1, v2, v3, v4⟩, v5, v6, v7⟩ := h2
      exact ⟨va, x, xb, ⟨v1, Or.inl v2, v3, v4⟩, v5, v6, v7⟩
    · rw [if_neg c5] at h2 ⊢; exact h2
theorem CvJ_W {W : Nat → Int → Prop} {z y : Z} {J : Nat → Prop} (hJ : ∀ a i, J a → ¬ W a i) (f : FrZ W z y) {s : Nat} {g : Sh} {r c : Int} {l : Lit} (hs : ShC z J s g) (h7 : ¬ W s 3) (H : CvJ z J s g r c l) : CvJ y J s g r c l := by
  obtain ⟨h1, h2⟩ := H
  refine ⟨h1, ?_⟩
  have k7 := ShC_7 hs
  match e : g.2.2.2 r c with
  | none => rw [e] at h2; exact h2
  | some (kd, li, q) =>
    rw [e] at h2
    simp only at h2 ⊢
    by_cases c5 : kd = 5
    · rw [if_pos c5] at h2 ⊢
      obtain ⟨va, x, xb, ⟨v1, v2, v3, v4⟩, v5, v6, v7⟩ := h2
      have kv : zK z va ≠ 0 := by rw [v3]; decide
      refine ⟨va, x, xb, ⟨(f.2 s 3 (by rw [k7]; decide) h7).2.2.trans v1, v2, (f.1 va kv).1.trans v3, by rw [(f.1 va kv).2]; exact v4⟩, (f.2 va _ kv (hJ va _ v2)).2.2.trans v5, v6, VlS_fr v7.1 f (hJ x 0 v6.1) (hJ x 1 v6.1) (hJ x 2 v6.1) (fun i => hJ xb i v6.2), ?_⟩
      rw [(f.1 xb (by rw [v7.1.1.2.2.2]; decide)).2]; exact v7.2
    · rw [if_neg c5] at h2 ⊢; exact h2
/-- the versions that a sheet's formulas look at, with their values -/
def EnV (z : Z) (b : Nat → Nat) (J : Nat → Prop) (F : Int → Sh) (G : Int → Int → Int → Lit) (h : Sh) (sh : Nat) : Prop := ∀ k, inS h k → ∀ l ps, ctC h k = some (5, l, ps) → ∀ j : Nat, j < ps.length → ((ps.getD j pd0).1 = 16 ∨ (ps.getD j pd0).1 = 17) → 0 ≤ (ps.getD j pd0).2.2.2.2.2 → (ps.getD j pd0).2.2.2.2.2 < 40 ∧ ∃ av, zO z (b 18) (ps.getD j pd0).2.2.2.2.2 = some av ∧ av ≠ sh ∧ ShC z J av (F (ps.getD j pd0).2.2.2.2.2) ∧ ∀ r c, 0 ≤ r → r < (F (ps.getD j pd0).2.2.2.2.2).1.1 → 0 ≤ c → c < (F (ps.getD j pd0).2.2.2.2.2).1.2 → CvJ z J av (F (ps.getD j pd0).2.2.2.2.2) r c (G (ps.getD j pd0).2.2.2.2.2 r c)
theorem CvL_J {z : Z} {b : Nat → Nat} {J J' : Nat → Prop} (hJ : ∀ a, J a → J' a) {sh : Nat} {h : Sh} {r c : Int} {l : Lit} (H : CvL z b J sh h r c l) : CvL z b J' sh h r c l := by
  obtain ⟨h1, h2⟩ := H
  refine ⟨h1, ?_⟩
  match e : h.2.2.2 r c with
  | none => rw [e] at h2; exact h2
  | some (kd, li, q) =>
    rw [e] at h2
    simp only at h2 ⊢
    by_cases c5 : kd = 5
    · rw [if_pos c5] at h2 ⊢
      obtain ⟨va, x, xb, ⟨v1, v2, v3, v4⟩, v5, v6, v7⟩ := h2
      exact ⟨va, x, xb, ⟨v1, v2.elim (fun w => Or.inl (hJ _ w)) Or.inr, v3, v4⟩, v5, ⟨hJ _ v6.1, hJ _ v6.2⟩, v7⟩
    · rw [if_neg c5] at h2 ⊢; exact h2
theorem EnV_W {W : Nat → Int → Prop} {z y : Z} {b : Nat → Nat} {J : Nat → Prop} {F : Int → Sh} {G : Int → Int → Int → Lit} {h : Sh} {sh : Nat} (k18 : zK z (b 18) = 21) (hJ : ∀ a i, J a → ¬ W a i) (h18 : ∀ i, ¬ W (b 18) i) (h7 : ∀ a, zK z a = 7 → a ≠ sh → ¬ W a 3) (h7' : ∀ a i, zK z a = 7 → W a i → i = 3) (f : FrZ W z y) (En : EnV z b J F G h sh) : EnV y b J F G h sh := by
  intro k hk l ps e j hj cop v0
  obtain ⟨v40, av, o1, ns, o2, o3⟩ := En k hk l ps e j hj cop v0
  exact ⟨v40, av, (f.2 (b 18) _ (by rw [k18]; decide) (h18 _)).2.2.trans o1, ns, ShC_fr f hJ h7' o2, fun r c r0 r1 c0 c1 => CvJ_W hJ f o2 (h7 av (ShC_7 o2) ns) (o3 r c r0 r1 c0 c1)⟩
section Wv
variable {z y : Z} {b sv sb : Nat → Nat} {J : Nat → Prop} {sh va : Nat} {h : Sh} {rv rb : Int → Nat} {F : Int → Sh} {G : Int → Int → Int → Lit}
/-- the frozen cells and what is worked out -/
def Jx (b : Nat → Nat) (J : Nat → Prop) (va : Nat) (h : Sh) (rv rb : Int → Nat) (D : Int → Prop) (a : Nat) : Prop := J a ∨ (a = va ∧ va ≠ b 8) ∨ ∃ i, D i ∧ FoI h i ∧ (a = rv i ∨ a = rb i)
theorem WkC_x {D : Int → Prop} (K : WkC z b J sv sb) (R : RmI b J sv sb h rv rb) (M : RoC z b sh va h rv rb) : WkC z b (Jx b J va h rv rb D) sv sb := by
  obtain ⟨⟨m1, m2, m3, m4⟩, m5⟩ := M
  refine ⟨K.1, fun a ha => ?_, K.2.2.1, fun a ha m hm => ?_, K.2.2.2.2.1, fun a ha hk => ?_, K.2.2.2.2.2.2⟩
  · rcases ha with ha | ⟨ha, h8⟩ | ⟨i, -, fi, ha⟩
    · exact K.2.1 a ha
    · rw [ha, m2]
      refine ⟨by decide, by decide, by decide, ?_⟩
      rcases m4 with m4 | m4
      · exact absurd m4 h8
      · exact m4
    · obtain ⟨-, B1, -, B3, -⟩ := m5 i fi
      have q := (R.2.2 i fi).2.2
      rcases ha with ha | ha
      · rw [ha, B1]; exact ⟨by decide, by decide, by decide, fun k hk => (q k hk).1⟩
      · rw [ha, B3]; exact ⟨by decide, by decide, by decide, fun k hk => (q k hk).2⟩
  · have S := (K.2.2.1.1 m hm).2
    rcases ha with ha | ⟨ha, h8⟩ | ⟨i, -, fi, ha⟩
    · exact K.2.2.2.1 a ha m hm
    · refine ⟨fun e => ?_, fun e => ?_⟩
      · have := S.1; rw [← e, ha, m2] at this; cases this
      · have := S.2.2.1; rw [← e, ha, m2] at this; cases this
    · obtain ⟨-, B1, -, B3, -⟩ := m5 i fi
      have q := (R.2.2 i fi).2.1 m hm
      rcases ha with ha | ha
      · rw [ha]; exact ⟨q.1, fun e => by have := S.2.2.1; rw [← e, B1] at this; cases this⟩
      · rw [ha]; exact ⟨fun e => (by have := S.1; rw [← e, B3] at this; cases this), q.2⟩
  · rcases ha with ha | ⟨ha, h8⟩ | ⟨i, -, fi, ha⟩
    · exact K.2.2.2.2.2.1 a ha hk
    · rw [ha, m2] at hk; cases hk
    · obtain ⟨-, B1, -, B3, B4⟩ := m5 i fi
      rcases ha with ha | ha
      · rw [ha, B1] at hk; cases hk
      · rw [ha, B4]; decide
theorem k9_cv {D : Int → Prop} {g : Int → Lit} (hs : ShC z J sh h) (M : RoC z b sh va h rv rb) (h1 : ∀ i, inI h i → ¬ FoI h i → g i = plC (ctC h (cdI h i))) (h2 : ∀ i, D i → FoI h i → VX z (rv i) (rb i) (g i) ∧ VOk (g i)) (hw : ∀ k, inS h k → ∀ kd l ps, ctC h k = some (kd, l, ps) → kd ≠ 5 → VOk l) {r c : Int} (r0 : 0 ≤ r) (r1 : r < h.1.1) (c0 : 0 ≤ c) (c1 : c < h.1.2) (hd : FoI h (r * h.1.2 + c) → D (r * h.1.2 + c)) : CvL z b (Jx b J va h rv rb D) sh h r c (fI h g r c) := by
  have hb := ShC_b hs
  obtain ⟨hi, e1, e2⟩ := xy_in hb r0 r1 c0 c1
  have ec : ctC h (cdI h (r * h.1.2 + c)) = h.2.2.2 r c := by
    obtain ⟨-, a1, a2⟩ := cd_in hb hi
    unfold ctC; rw [a1, a2, e1, e2]
  have isn := (cd_in hb hi).1
  unfold fI
  generalize hx : r * h.1.2 + c = i at *
  unfold CvL
  match e : h.2.2.2 r c with
  | none =>
    have nf : ¬ FoI h i := fun q => by obtain ⟨-, l, ps, q⟩ := q; rw [ec, e] at q; cases q
    have gi := h1 i hi nf
    rw [ec, e] at gi
    rw [gi]
    exact ⟨Or.inl ⟨rfl, rfl, rfl⟩, rfl⟩
  | some (kd, li, ps) =>
    simp only
    by_cases c5 : kd = 5
    · rw [if_pos c5]
      have fi : FoI h i := ⟨hi, li, ps, by rw [ec, e, c5]⟩
      obtain ⟨X, o⟩ := h2 i (hd fi) fi
      obtain ⟨⟨m1, m2, m3, m4⟩, m5⟩ := M
      have hi2 := hi.2
      refine ⟨o, va, rv i, rb i, ⟨m1, ?_, m2, by rw [hx]; omega⟩, by rw [hx]; exact (m5 i fi).1, ⟨Or.inr (Or.inr ⟨i, hd fi, fi, Or.inl rfl⟩), Or.inr (Or.inr ⟨i, hd fi, fi, Or.inr rfl⟩)⟩, X⟩
      by_cases c8 : va = b 8
      · exact Or.inr c8
      · exact Or.inl (Or.inr (Or.inl ⟨rfl, c8⟩))
    · rw [if_neg c5]
      have nf : ¬ FoI h i := fun q => by
        obtain ⟨-, l, ps', q⟩ := q
        rw [ec, e] at q
        injection q with q
        injection q with q
        exact c5 q
      have gi := h1 i hi nf
      rw [ec, e] at gi
      have gi : g i = li := gi
      rw [gi]
      exact ⟨hw _ isn kd li ps (by rw [ec, e]) c5, rfl⟩
/-- one formula -/
theorem k9_one {o : Int → Int} {m n : Int} {g : Int → Lit} {Q : Z → Prop} {nv : Int} (K : WkC z b J sv sb) (h8 : zO z (b 4) 8 = some sh) (hs : ShC z J sh h) (R : RmI b J sv sb h rv rb) (M : RoC z b sh va h rv rb) (En : EnV z b J F G h sh) (Zf : WfZ F nv h) (hw : ∀ k, inS h k → ∀ kd l ps, ctC h k = some (kd, l, ps) → kd ≠ 5 → VOk l) (O : OrdOk h o (fun _ => False) n) (m0 : 0 ≤ m) (m1 : m < n) (h1 : ∀ i, inI h i → ¬ FoI h i → g i = plC (ctC h (cdI h i))) (h2 : ∀ i, DnI h o m i → FoI h i → VX z (rv i) (rb i) (g i) ∧ VOk (g i)) (p : ∀ y l ps, ctC h (cdI h (o m)) = some (5, l, ps) → VX y (rv (o m)) (rb (o m)) (finL (EvA (eS F h) (vS G (fI h g)) ps (ps.length - 1))) → VOk (finL (EvA (eS F h) (vS G (fI h g)) ps (ps.length - 1))) → FrZ (WcW b sv sb (rv (o m)) (rb (o m))) z y → Q y) : F_X9_workCell (b 4) (o m) z Q := by
  have hb := ShC_b hs
  obtain ⟨⟨fm, nc⟩, -⟩ := O.1 m m0 m1
  obtain ⟨hi, l, ps, e⟩ := id fm
  have isn := (cd_in hb hi).1
  obtain ⟨W, ⟨n1, n60⟩, Wv⟩ := Zf.2.2 _ isn l ps e
  have hJ : ∀ a, J a → Jx b J va h rv rb (DnI h o m) a := fun a ha => Or.inl ha
  have Kx := WkC_x (D := DnI h o m) K R M
  have hsx : ShC z (Jx b J va h rv rb (DnI h o m)) sh h := ShC_I hJ hs
  have hs' := hs
  obtain ⟨ra, ca, xa, Sp, -, -, -, -, -, hct⟩ := hs'
  obtain ⟨p1, p2, p3, p4, p5, p6, p7, p8, p9, p10, p11, p12⟩ := Sp
  obtain ⟨x1, x2, x3⟩ := i_xy hb hi
  obtain ⟨-, q2, q3⟩ := cd_in hb hi
  have hct := hct _ _ x1.1 x1.2 x2.1 x2.2
  rw [x3] at hct
  have ec : h.2.2.2 (o m / h.1.2) (o m % h.1.2) = some (5, l, ps) := by rw [← q2, ← q3]; exact e
  rw [ec] at hct
  unfold ContC at hct
  simp only at hct
  obtain ⟨a, pa, c1, c2, c3, c4, c5, c6, c7, c8, c9, -⟩ := hct
  obtain ⟨⟨m1', m2', m3', m4'⟩, m5'⟩ := id M
  obtain ⟨ov, B⟩ := m5' _ fm
  have hi2 := hi.2
  have dn : ∀ j, LdI h (o m) j → FoI h j → DnI h o m j := fun j r fj => by
    by_cases cj : ciI h j
    · exact Or.inl cj
    · exact Or.inr (O.2.2.1 m j m0 m1 r ⟨fj, cj⟩)
  have EnX : EnL z b (Jx b J va h rv rb (DnI h o m)) (eS F h) (vS G (fI h g)) ps := by
    intro j hj cop
    obtain ⟨v1, v2⟩ := Wv j hj
    by_cases cv : (ps.getD j pd0).2.2.2.2.2 < 0
    · have e1 : eS F h (ps.getD j pd0).2.2.2.2.2 = h := if_pos cv
      have e2 : vS G (fI h g) (ps.getD j pd0).2.2.2.2.2 = fI h g := if_pos cv
      rw [e1, e2]
      refine ⟨sh, by unfold ShV; rw [if_pos cv]; exact h8, hsx, fun c16 na r c es => ?_, fun c17 t q lf r ea x yy x0 x1 y0 y1 => ?_⟩
      · have sb' := spP_b hb es
        refine k9_cv hs M h1 h2 hw (by omega) (by omega) (by omega) (by omega) (fun fi => dn _ ⟨⟨hi, fi.1⟩, isn, l, ps, e, ?_⟩ fi)
        rw [cd_xy hb (by omega) (by omega) (by omega) (by omega)]
        exact ⟨j, hj, by omega, Or.inl ⟨c16, na, r, c, es, rfl⟩⟩
      · have ab := arP_b hb ea
        refine k9_cv hs M h1 h2 hw (by omega) (by omega) (by omega) (by omega) (fun fi => dn _ ⟨⟨hi, fi.1⟩, isn, l, ps, e, ?_⟩ fi)
        rw [cd_xy hb (by omega) (by omega) (by omega) (by omega)]
        exact ⟨j, hj, by omega, Or.inr ⟨c17, t, q, lf, r, ea, x, yy, ⟨x0, x1⟩, ⟨y0, y1⟩, rfl⟩⟩
    · have e1 : eS F h (ps.getD j pd0).2.2.2.2.2 = F (ps.getD j pd0).2.2.2.2.2 := if_neg cv
      have e2 : vS G (fI h g) (ps.getD j pd0).2.2.2.2.2 = G (ps.getD j pd0).2.2.2.2.2 := if_neg cv
      rw [e1, e2]
      obtain ⟨v40, av, o1, -, o2, o3⟩ := En _ isn l ps e j hj cop (by omega)
      have hbv := ShC_b o2
      refine ⟨av, by unfold ShV; rw [if_neg cv]; exact ⟨v40, o1⟩, ShC_I hJ o2, fun c16 na r c es => ?_, fun c17 t q lf r ea x yy x0 x1 y0 y1 => ?_⟩
      · have sb' := spP_b hbv es
        exact CvL_J hJ (CvJ_L (o3 r c (by omega) (by omega) (by omega) (by omega)))
      · have ab := arP_b hbv ea
        exact CvL_J hJ (CvJ_L (o3 x yy (by omega) (by omega) (by omega) (by omega)))
  have Fx : FoC z (Jx b J va h rv rb (DnI h o m)) pa ps := ⟨Or.inl (c6 (by omega)), c7, c8, fun i hi => by obtain ⟨q, y1, y2⟩ := c9 i hi; exact ⟨q, y1, PrtC_J hJ y2⟩⟩
  refine k9_cell (l := l) Kx h8 p1 p4 p7 hi.1 (by rw [p10]; exact hi2) c1 c3 c5 Fx EnX W n1 n60 m1' m2' (by omega) ov B (fun m' hm' => (R.2.2 _ fm).2.1 m' hm') (fun y X f => p y l ps e X ?_ f)
  refine VOk_fin ?_
  -- only what it looks at is needed here
  have ok : svOk (svE (eS F h) (vS G (fI h g)) ps) ∧ avOk (avE (eS F h) (vS G (fI h g)) ps) ∧ plOk (plE (eS F h) ps) := EnL_ok EnX
  exact VOk_ev W ok.1 ok.2.1 ok.2.2 _ _ (Nat.lt_succ_self _) (by omega)
end Wv
