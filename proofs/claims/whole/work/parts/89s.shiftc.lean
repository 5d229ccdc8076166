/-! ===== copy: a content moved, the system ===== -/
def pcN (c : Cont) : Nat := match c with
  | none => 0
  | some (_, _, ps) => ps.length
theorem zK_of {z y : Z} (f : FrZ nW z y) {a : Nat} (h : zK y a = 0) : zK z a = 0 := by
  by_cases e : zK z a = 0
  · exact e
  · rw [(f.1 a e).1] at h; exact absurd h e
theorem NwZ_u {z y w : Z} {N M : Nat → Prop} (f : FrZ nW z y) (g : FrZ nW y w) (h : NwZ z y N) (k : NwZ y w M) : NwZ z w (fun a => N a ∨ M a) := by
  rintro a (ha | ha)
  · obtain ⟨h1, h2, h3, h4⟩ := h a ha
    have e := (g.1 a h2).1
    exact ⟨h1, by rw [e]; exact h2, by rw [e]; exact h3, by rw [e]; exact h4⟩
  · obtain ⟨h1, h2, h3, h4⟩ := k a ha
    exact ⟨zK_of f h1, h2, h3, h4⟩
theorem o_isFormulaC {z : Z} {I : Nat → Prop} {r : Option Nat} {c : Cont} {P : Int → Prop} (h : ContC z I r c) (hy : ∀ l ps, c = some (5, l, ps) → P 1) (hn : (∀ l ps, c ≠ some (5, l, ps)) → P 0) : F_X11_isFormula r z P := by
  unfold F_X11_isFormula F_X11_isFormula_16 F_X11_isFormula_17
  match c, h, hy, hn with
  | none, h, hy, hn =>
    rw [if_pos (show r = none from h)]; exact ⟨z1_0, hn (fun _ _ w => by cases w)⟩
  | some (k, l, ps), h, hy, hn =>
    obtain ⟨a, pa, h1, -, h3, h4, -⟩ := h
    rw [if_neg (by rw [h1]; simp)]
    refine ⟨a, h1, h3, ?_⟩
    rw [h4]
    by_cases e : k = 5
    · rw [if_pos e]; subst e; exact ⟨z1_1, hy l ps rfl⟩
    · rw [if_neg e]; exact ⟨z1_0, hn (fun _ _ w => e (by injection w with w; injection w))⟩
theorem gD_mem {ps : List Prt} {i : Nat} (hi : i < ps.length) : ps.getD i pd0 ∈ ps := by
  rw [List.getD_eq_getElem?_getD, List.getElem?_eq_getElem hi]; exact List.getElem_mem hi
theorem gD_map {f : Prt → Prt} {ps : List Prt} {i : Nat} (hi : i < ps.length) : (ps.map f).getD i pd0 = f (ps.getD i pd0) := by
  rw [List.getD_eq_getElem?_getD, List.getD_eq_getElem?_getD, List.getElem?_map, List.getElem?_eq_getElem hi]; rfl
theorem o_isPlace {z : Z} {I : Nat → Prop} {a : Nat} {p : Prt} {P : Int → Prop} (h : PrtC z I a p) (k : P (tb (p.1 = 16 ∨ p.1 = 17))) : F_X4_isPlace a z P := by
  unfold F_X4_isPlace F_X4_isPlace_18 F_X4_isPlace_23
  refine ⟨h.2.1, ?_⟩
  rw [h.2.2.1]
  by_cases e : p.1 = 16
  · rw [if_pos e]; rw [tb, if_pos (Or.inl e)] at k; exact ⟨z1_1, k⟩
  · rw [if_neg e]
    by_cases e2 : p.1 = 17
    · rw [if_pos e2]; rw [tb, if_pos (Or.inr e2)] at k; exact ⟨z1_1, k⟩
    · rw [if_neg e2]; rw [tb, if_neg (by omega)] at k; exact ⟨z1_0, k⟩
theorem o_shiftC {z : Z} {b : Nat → Nat} {I : Nat → Prop} {S : SS} {r : Option Nat} {k : Cont} {dr dc : Int} {c sl : Nat} {P : Option Nat → Z → Prop} (R : RC z b I S) (hk : ContC z I r k) (wk : WfC k) (vk : VrC S.2.1.1 k) (his : ∀ v, isShP v S → IdS (shOf v S)) (r0 : -100 ≤ dr ∧ dr ≤ 100) (c0 : -100 ≤ dc ∧ dc ≤ 100) (hc : 3 * pcN k ≤ c) (hsl : 13 * pcN k ≤ sl) (h : ∀ q y N, FrZ nW z y → NwZ z y N → ContC y (fun a => I a ∨ N a) q (shfC S dr dc k) → P q y) : F_X11_shifted (b 0) r dr dc z c sl P := by
  unfold F_X11_shifted
  refine o_isFormulaC hk (fun l ps e => ?_) (fun e => ?_)
  rotate_left
  · rw [if_pos rfl]
    refine h r z (fun _ => False) FrZ_rf (fun _ w => w.elim) ?_
    have : shfC S dr dc k = k := by
      match k, e with
      | none, _ => rfl
      | some (kk, l, ps), e =>
        unfold shfC
        dsimp only
        rw [if_neg (fun w => e l ps (by rw [w]))]
    rw [this]
    exact ContC_I (fun _ w => Or.inl w) hk
  rw [if_neg (by decide)]
  subst e
  obtain ⟨a, pa, h1, i2, h3, h4, h5, i6, h7, h8, h9, h10⟩ := id hk
  rw [if_pos rfl] at h10
  obtain ⟨w1, -, w3⟩ := wk 5 l ps rfl
  have w1' := (w1 rfl).2
  have hvp := vk 5 l ps rfl
  have hcN : pcN (some (5, l, ps)) = ps.length := rfl
  rw [hcN] at hc hsl
  refine ⟨a, h1, h3, pa, h5, h7, ?_⟩
  rw [h8, Int.toNat_natCast]
  refine ⟨by omega, by omega, by omega, by omega, fun q hq => ?_⟩
  rintro _ rfl
  have f0 : FrZ nW z (nZ z q 20 (ps.length : Int)) := FrZ_nZ FrZ_rf hq
  have q20 : zK (nZ z q 20 (ps.length : Int)) q = 20 := by rw [zK_nZ, if_pos rfl]
  have qn : zN (nZ z q 20 (ps.length : Int)) q = (ps.length : Int) := by rw [zN_nZ, if_pos rfl]
  generalize nZ z q 20 (ps.length : Int) = z0 at f0 q20 qn
  have nIq : ¬ I q := fun w => (R.2.1 q w).1 hq
  unfold F_X11_shifted_22
  refine lp_I (S := Int × Z × Nat × Nat) (fun t => (0 ≤ t.1 ∧ t.1 ≤ (ps.length : Int)) ∧ ((ps.length : Int) - t.1 + 1 ≤ (t.2.2.1 : Int) ∧ 9 * ((ps.length : Int) - t.1) + 3 ≤ (t.2.2.2 : Int)) ∧ FrZ nW z t.2.1 ∧ zK t.2.1 q = 20 ∧ zN t.2.1 q = (ps.length : Int) ∧ ∃ N, NwZ z t.2.1 N ∧ ¬ N q ∧ ∀ j : Nat, (j : Int) < t.1 → ∃ e, zO t.2.1 q j = some e ∧ PrtC t.2.1 (fun a => I a ∨ N a) e (shfQ S dr dc (ps.getD j pd0))) (fun t => ((ps.length : Int) - t.1).toNat) ?_ (0, z0, c - 1, sl - ps.length) ⟨⟨by show (0 : Int) ≤ 0; decide, by show (0 : Int) ≤ _; omega⟩, ⟨by show (ps.length : Int) - 0 + 1 ≤ ((c - 1 : Nat) : Int); omega, by show 9 * ((ps.length : Int) - 0) + 3 ≤ ((sl - ps.length : Nat) : Int); omega⟩, f0, q20, qn, fun _ => False, fun _ w => w.elim, fun w => w, fun j hj => absurd hj (by show ¬ (j : Int) < 0; omega)⟩
  rintro G ⟨i, y, c', s'⟩ ⟨⟨i0, i1⟩, ⟨rc, rs⟩, fy, y20, yn, N, nN, nq, hN⟩ ih
  simp only at i0 i1 rc rs fy y20 yn nN hN
  unfold L_X11_shifted_22 F_X11_shifted_79 F_X11_shifted_81
  dsimp only
  refine ⟨q, rfl, y20, ?_⟩
  rw [yn]
  have Ry := RC_nW fy R
  have hky := ContC_nw fy hk
  by_cases ei : (ps.length : Int) ≤ i
  · rw [if_pos ei]
    show 1 ≤ c' ∧ 3 ≤ s' ∧ ∀ a_88, zK y a_88 = 0 → _
    refine ⟨by omega, by omega, fun d hd => ?_⟩
    rintro _ rfl
    have dq : q ≠ d := fun w => by rw [w, hd] at y20; cases y20
    have dq' : d ≠ q := fun w => dq w.symm
    unfold F_X1_init
    refine ⟨by rw [zK_nZ, if_pos rfl], ?_⟩
    rintro _ rfl _ rfl _ rfl
    have fd : FrZ nW y (wO (wO (wI (nZ y d 2 0) d 0 5) d 1 none) d 2 (some q)) := FrZ_wO (FrZ_wO (FrZ_wI (FrZ_nZ FrZ_rf hd) (Or.inr hd)) (Or.inr hd)) (Or.inr hd)
    have kd : zK (wO (wO (wI (nZ y d 2 0) d 0 5) d 1 none) d 2 (some q)) d = 2 := by simp only [zK_wO, zK_wI, zK_nZ]; rw [if_pos trivial]
    have ed0 : zI (wO (wO (wI (nZ y d 2 0) d 0 5) d 1 none) d 2 (some q)) d 0 = 5 := by rw [zI_wO, zI_wO, zI_wI, if_pos ⟨rfl, rfl⟩]
    have ed1 : zO (wO (wO (wI (nZ y d 2 0) d 0 5) d 1 none) d 2 (some q)) d 1 = none := by rw [zO_wO, if_neg (by omega), zO_wO, if_pos ⟨rfl, rfl⟩]
    have ed2 : zO (wO (wO (wI (nZ y d 2 0) d 0 5) d 1 none) d 2 (some q)) d 2 = some q := by rw [zO_wO, if_pos ⟨rfl, rfl⟩]
    generalize (wO (wO (wI (nZ y d 2 0) d 0 5) d 1 none) d 2 (some q)) = w at fd kd ed0 ed1 ed2
    have kq : zK w q = 20 := (fd.1 q (by rw [y20]; decide)).1.trans y20
    have fw := FrZ_tr fy fd
    refine h (some d) w (fun a => N a ∨ (a = q ∨ a = d)) fw ?_ ?_
    · rintro t (ht | ht | ht)
      · obtain ⟨g1, g2, g3, g4⟩ := nN t ht
        have e := (fd.1 t g2).1
        exact ⟨g1, by rw [e]; exact g2, by rw [e]; exact g3, by rw [e]; exact g4⟩
      · subst ht; exact ⟨hq, by rw [kq]; decide, by rw [kq]; decide, by rw [kq]; decide⟩
      · subst ht; exact ⟨zK_of fy hd, by rw [kd]; decide, by rw [kd]; decide, by rw [kd]; decide⟩
    · unfold shfC
      dsimp only
      rw [if_pos rfl]
      refine ⟨d, q, rfl, Or.inr (Or.inr (Or.inr rfl)), kd, ed0, ed2, fun _ => Or.inr (Or.inr (Or.inl rfl)), kq, ?_, fun j hj => ?_, ?_⟩
      · rw [(fd.1 q (by rw [y20]; decide)).2, yn, List.length_map]
      · rw [List.length_map] at hj
        obtain ⟨e, e1, e2⟩ := hN j (by omega)
        refine ⟨e, ((fd.2 q j (by rw [y20]; decide) (fun w => w)).2.2).trans e1, ?_⟩
        rw [show ((0 : Int), (0 : Int), (none : Option Lit), ((0 : Int), (0 : Int), (0 : Int), (0 : Int)), (0 : Int), (0 : Int)) = pd0 from rfl, gD_map hj]
        exact PrtC_I (fun a ha => ha.elim (fun ha => Or.inl ha) (fun ha => Or.inr (Or.inl ha))) (PrtC_nw fd e2)
      · rw [if_pos rfl]; exact ⟨ed1, h10.2⟩
  · rw [if_neg ei]
    obtain ⟨a', pa', g1, g2, g3, g4, g5, g6, g7, g8, g9, g10⟩ := id hky
    refine ⟨a', g1, g3, pa', g5, g7, i0, by omega, ?_⟩
    obtain ⟨e, e1, e2⟩ := g9 i.toNat (by omega)
    rw [Int.toNat_of_nonneg i0] at e1
    have ep : ps.getD i.toNat (0, 0, none, (0, 0, 0, 0), 0, 0) = ps.getD i.toNat pd0 := rfl
    rw [ep] at e2
    have wp := w3 _ (gD_mem (ps := ps) (i := i.toNat) (by omega))
    have vp := hvp _ (gD_mem (ps := ps) (i := i.toNat) (by omega))
    generalize hpi : ps.getD i.toNat pd0 = p at e2 wp vp
    refine ⟨e, e1, e2.2.1, cK Ry.1 0 rfl rfl, ?_⟩
    have e8 : zI y e 8 = p.2.2.2.2.2 := e2.2.2.2.2.2.2.2.2.2.2
    rw [e8, w32e (x := i + 1) (by omega) (by omega), e1]
    have vge : -1 ≤ p.2.2.2.2.2 := by
      have := wp.2.2.2.2.2
      split at this
      · exact this.2
      · have q := this.2; rw [q]; decide
    -- a part put into its place
    have put : ∀ (e' : Nat) (y' : Z) (M : Nat → Prop) (c2 s2 : Nat), FrZ nW y y' → NwZ y y' M → PrtC y' (fun a => I a ∨ M a) e' (shfQ S dr dc p) → ((ps.length : Int) - (i + 1) + 1 ≤ (c2 : Int) ∧ 9 * ((ps.length : Int) - (i + 1)) + 3 ≤ (s2 : Int)) → ∃ a_81, some q = some a_81 ∧ zK y' a_81 = 20 ∧ (0 ≤ i ∧ i < zN y' a_81 ∧ ((∀ v, some e' = some v → zK y' v = 5) ∧ (∀ z_81, z_81 = wO y' a_81 i (some e') → G (i + 1, z_81, c2, s2)))) := fun e' y' M c2 s2 fy' nM pe rr => by
      have k20 : zK y' q = 20 := (fy'.1 q (by rw [y20]; decide)).1.trans y20
      refine ⟨q, rfl, k20, i0, by rw [(fy'.1 q (by rw [y20]; decide)).2, yn]; omega, fun v hv => by cases hv; exact pe.2.1, ?_⟩
      rintro _ rfl
      have fz' := FrZ_tr fy fy'
      have fw : FrZ nW z (wO y' q i (some e')) := FrZ_wO fz' (Or.inr hq)
      have fx : FrZ (fun a _ => a = q) y' (wO y' q i (some e')) := FrZ_wO FrZ_rf (Or.inl rfl)
      have nMq : ¬ M q := fun w => by have := (nM q w).1; rw [y20] at this; cases this
      have nU := NwZ_u fy fy' nN nM
      refine ih (i + 1, wO y' q i (some e'), c2, s2) ⟨⟨by show 0 ≤ i + 1; omega, by show i + 1 ≤ _; omega⟩, rr, fw, k20, by show zN y' q = _; rw [(fy'.1 q (by rw [y20]; decide)).2, yn], fun a => N a ∨ M a, nU, fun w => w.elim nq nMq, fun j hj => ?_⟩ (by show ((ps.length : Int) - (i + 1)).toNat < ((ps.length : Int) - i).toNat; omega)
      replace hj : (j : Int) < i + 1 := hj
      show ∃ e, zO (wO y' q i (some e')) q j = some e ∧ _
      by_cases ej : (j : Int) = i
      · refine ⟨e', by rw [zO_wO, if_pos ⟨rfl, ej⟩], ?_⟩
        rw [show j = i.toNat by omega, hpi]
        refine PrtC_fr fx ?_ (PrtC_I (J := fun a => I a ∨ (N a ∨ M a)) (fun a ha => ha.elim (fun ha => Or.inl ha) (fun ha => Or.inr (Or.inr ha))) pe)
        rintro t _ (ht | ht | ht) w
        · exact nIq (w ▸ ht)
        · exact nq (w ▸ ht)
        · exact nMq (w ▸ ht)
      · obtain ⟨e3, e4, e5⟩ := hN j (by omega)
        refine ⟨e3, ?_, ?_⟩
        · rw [zO_wO, if_neg (fun w => ej w.2)]
          exact ((fy'.2 q j (by rw [y20]; decide) (fun w => w)).2.2).trans e4
        · refine PrtC_fr fx ?_ (PrtC_I (J := fun a => I a ∨ (N a ∨ M a)) (fun a ha => ha.elim (fun ha => Or.inl ha) (fun ha => Or.inr (Or.inl ha))) (PrtC_nw fy' e5))
          rintro t _ (ht | ht | ht) w
          · exact nIq (w ▸ ht)
          · exact nq (w ▸ ht)
          · exact nMq (w ▸ ht)
    refine o_sheetOf Ry (fun hv d sd _ _ => ?_) (fun hv => absurd ⟨vge, vp⟩ hv)
    refine o_isPlace e2 ?_
    by_cases pl : p.1 = 16 ∨ p.1 = 17
    · rw [show tb (p.1 = 16 ∨ p.1 = 17) = 1 by rw [tb, if_pos pl], if_neg (by decide), if_neg (by simp)]
      refine ⟨1, 9, by omega, by omega, ?_⟩
      refine o_shiftP e2 wp pl sd (his _ hv) r0 c0 (Nat.le_refl _) (Nat.le_refl _) (fun e' y' M fy' nM _ pe => ?_)
      refine put e' y' M (c' - 1) (s' - 9) fy' nM ?_ ⟨by omega, by omega⟩
      unfold shfQ; rw [if_pos pl]; exact pe
    · rw [show tb (p.1 = 16 ∨ p.1 = 17) = 0 by rw [tb, if_neg pl], if_pos rfl]
      refine put e y (fun _ => False) c' s' FrZ_rf (fun _ w => w.elim) ?_ ⟨by omega, by omega⟩
      unfold shfQ; rw [if_neg pl]; exact PrtC_I (fun _ w => Or.inl w) e2
