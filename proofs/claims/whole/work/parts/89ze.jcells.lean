/-! ===== merging: the joined sheet of the system ===== -/
theorem cOf_CoK {s : Sh} {r c : Int} (cs : CoS s) : CoK (cOf s r c) := by
  unfold cOf
  split
  · next k => exact cs _ _ k.1 (plS_r k.1).1 k.2 (plS_c k.2).1
  · intro k l ps g; cases g
theorem o_joinedCell {z y : Z} {b : Nat → Nat} {I : Nat → Prop} {a1 a2 a3 : Nat} {w t d : Sh} {row col : Int} {D : List Cf} {c s : Nat} {P : Option Nat → Z → Prop} (hw : WzI y I) (cw : CWz z b) (r : Frz z b I) (f : FrZ (WL z b wJc no1 no1) z y) (M : Mg3 y b I a1 a2 a3 w t d) (cs : CoS w) (ct : CoS t) (cd : CoS d) (hD : D.length < 362) (dy : CfLC y b I D) (hc : 1 ≤ c) (hs : 7 ≤ s) (h : ∀ q x, FrZ (WL z b wJc no1 no1) z x → FrZ (WL y b wJc no1 no1) y x → ContC x I q (clC w t d row col).1 → CfLC x b I (D ++ (clC w t d row col).2) → P q x) : F_X3_joinedCell (b 5) (row + 1) (col + 1) y c s P := by
  obtain ⟨⟨k5, o3, o4, o5⟩, h1, h2, h3⟩ := M
  have cy := CWz_fr cw f (by decide)
  unfold F_X3_joinedCell F_X3_joinedCell_80
  refine ⟨k5, a1, o3, ShC_7 h1, o_of h1 (fun q1 hq1 => ⟨a2, o4, ShC_7 h2, o_of h2 (fun q2 hq2 => o_knows h2 ?_)⟩)⟩
  rw [Int.add_sub_cancel, Int.add_sub_cancel] at hq1 hq2 ⊢
  have stay : ∀ q k, ContC y I q k → clC w t d row col = (k, []) → P q y := fun q k hq e => h q y f FrZ_rf (by rw [e]; exact hq) (by rw [e, List.append_nil]; exact dy)
  by_cases kt : knowsP t row col
  rotate_left
  · rw [show tb (knowsP t row col) = 0 by rw [tb, if_neg kt], if_pos rfl]
    exact stay q1 _ hq1 (by unfold clC; rw [if_pos kt])
  rw [show tb (knowsP t row col) = 1 by rw [tb, if_pos kt], if_neg (by decide)]
  refine o_knows h1 ?_
  rw [Int.add_sub_cancel, Int.add_sub_cancel]
  by_cases kw : knowsP w row col
  rotate_left
  · rw [show tb (knowsP w row col) = 0 by rw [tb, if_neg kw], if_pos rfl]
    exact stay q2 _ hq2 (by unfold clC; rw [if_neg (fun g => g kt), if_pos kw])
  rw [show tb (knowsP w row col) = 1 by rw [tb, if_pos kw], if_neg (by decide)]
  refine ⟨a3, o5, ShC_7 h3, o_of h3 (fun q3 hq3 => ?_)⟩
  rw [Int.add_sub_cancel, Int.add_sub_cancel] at hq3
  have e0 : clC w t d row col = ci (cOf t row col = cOf d row col ∨ cOf w row col = cOf t row col) (cOf w row col, []) (ci (cOf w row col = cOf d row col) (cOf t row col, []) (cOf w row col, [((3, row, col, 1), cOf w row col, cOf t row col, 0)])) := by
    unfold clC; rw [if_neg (fun g => g kt), if_neg (fun g => g kw)]
  refine o_alike hw hq2 hq3 (cOf_CoK ct) (cOf_CoK cd) (fun g1 => ?_) (fun g1 => ?_)
  · rw [if_neg (by decide)]
    exact stay q1 _ hq1 (by rw [e0, ci_1 (Or.inl g1)])
  rw [if_pos rfl]
  refine o_alike hw hq1 hq2 (cOf_CoK cs) (cOf_CoK ct) (fun g2 => ?_) (fun g2 => ?_)
  · rw [if_neg (by decide)]
    exact stay q1 _ hq1 (by rw [e0, ci_1 (Or.inr g2)])
  rw [if_pos rfl]
  refine o_alike hw hq1 hq3 (cOf_CoK cs) (cOf_CoK cd) (fun g3 => ?_) (fun g3 => ?_)
  · rw [if_neg (by decide)]
    exact stay q2 _ hq2 (by rw [e0, ci_0 (fun g => g.elim g1 g2), ci_1 g3])
  rw [if_pos rfl]
  refine ⟨hc, hs, fun a ha => ?_⟩
  rintro _ rfl
  refine k_newCf ha z1_1 (fun x fx nx x1 e0' e1 e2 e3 e4 e5 e6 => ?_)
  have cx : CWz x b := CWz_fr cy (FrZ_mono fx (fun _ _ _ g => g.elim) : FrZ (WL y b [] no1 no1) y x) (by decide)
  refine ⟨cK cx 5 rfl rfl, ?_⟩
  have fyx : FrZ (WL y b wJc no1 no1) y x := FrZ_mono fx (fun _ _ _ g => g.elim)
  have fzx : FrZ (WL z b wJc no1 no1) z x := FrZ_wl f fyx
  refine o_note3 (e := ((3, row, col, 1), cOf w row col, cOf t row col, 0)) cw r fzx (CfLC_nw cy fx dy) hD ⟨a, rfl, x1, e0', e1, e2, e3, by rw [e4]; exact ContC_nw fx hq1, by rw [e5]; exact ContC_nw fx hq2, e6, z1_0⟩ (fun i hi g => ?_) (fun x' fx' fxx' kx' dx' => ?_)
  · rw [(fx.2 (b 30) i (by rw [cK cy 30 rfl rfl]; decide) (fun g => g)).2.2] at g
    obtain ⟨a', g0, g1', -⟩ := dy.2.1 i hi
    rw [g0] at g; cases g
    rw [ha] at g1'; cases g1'
  · refine h q1 x' fx' (FrZ_wl fyx fxx') ?_ ?_
    · rw [e0, ci_0 (fun g => g.elim g1 g2), ci_0 g3]
      exact ContC_fr fxx' (WL_I (Frz_fr r fzx)) (ContC_nw fx hq1)
    · rw [e0, ci_0 (fun g => g.elim g1 g2), ci_0 g3]; exact dx'
theorem CfC_x {y x' : Z} {I : Nat → Prop} {x : Nat} {o : Option Nat} {e : Cf} (k19 : zK y x = 19) (nI : ¬ I x) (f : FrZ (fun a _ => a = x) y x') (h : CfC y I o e) : CfC x' I o e := by
  obtain ⟨a, h0, h1, h2, h3, h4, h5, h6, h7, h8, h9⟩ := h
  have ka : zK y a ≠ 0 := by rw [h1]; decide
  have ax : a ≠ x := fun g => by rw [g, k19] at h1; cases h1
  have e := fun i => f.2 a i ka ax
  refine ⟨a, h0, (f.1 a ka).1.trans h1, (e 0).1.trans h2, (e 1).1.trans h3, (e 2).1.trans h4, (e 3).1.trans h5, ?_, ?_, (e 6).1.trans h8, h9⟩
  · rw [(e 4).2.2]; exact ContC_fr f (fun t _ ht g => nI (g ▸ ht)) h6
  · rw [(e 5).2.2]; exact ContC_fr f (fun t _ ht g => nI (g ▸ ht)) h7
theorem CfLC_x {y x' : Z} {b : Nat → Nat} {I : Nat → Prop} {x : Nat} {D : List Cf} (c : CWz y b) (k19 : zK y x = 19) (nI : ¬ I x) (hx : ∀ k, k < 35 → x ≠ b k) (f : FrZ (fun a _ => a = x) y x') (d : CfLC y b I D) : CfLC x' b I D := by
  obtain ⟨d1, d2, d3⟩ := d
  have e5 := f.2 (b 5) 2 (by rw [cK c 5 rfl rfl]; decide) (fun g => hx 5 (by decide) g.symm)
  have e30 := fun i => (f.2 (b 30) i (by rw [cK c 30 rfl rfl]; decide) (fun g => hx 30 (by decide) g.symm)).2.2
  exact ⟨e5.1.trans d1, fun i hi => by rw [e30]; exact CfC_x k19 nI f (d2 i hi), fun i j hi hj => by rw [e30, e30]; exact d3 i j hi hj⟩
/-- the cells of the joined sheet, being filled -/
theorem o_joinCells {z : Z} {b : Nat → Nat} {I : Nat → Prop} {a1 a2 a3 q x qr qc : Nat} {w t d : Sh} {R C : List Int} {D : List Cf} {y0 : Z} {c s : Nat} {P : Option Nat → Z → Prop} (hwz : WzI z I) (cw : CWz z b) (r : Frz z b I) (M : Mg3 z b I a1 a2 a3 w t d) (cs : CoS w) (ct : CoS t) (cd : CoS d) (fr : 1 ≤ R.length ∧ R.length ≤ 32) (fc : 1 ≤ C.length ∧ C.length ≤ 10) (hq : zK z q = 0) (hx : zK z x = 0) (qx : q ≠ x) (bqr : ∀ k, k < 35 → qr ≠ b k) (bqc : ∀ k, k < 35 → qc ≠ b k) (lr : LnQ z qr R) (lc : LnQ z qc C) (f0 : FrZ nW z y0) (S0 : Shp y0 q qr qc x (R.length : Int) (C.length : Int)) (q3 : zO y0 q 3 = none) (hD : (D.length : Int) + (R.length : Int) * (C.length : Int) ≤ 362) (d0 : CfLC z b I D) (hc : 320 ≤ c) (hs : 2240 ≤ s) (h : ∀ y, FrZ (WL z b wJc no1 no1) z y → Shp y q qr qc x (R.length : Int) (C.length : Int) → zO y q 3 = none → (∀ i j, 0 ≤ i → i < (R.length : Int) → 0 ≤ j → j < (C.length : Int) → ContC y I (zO y x (i * (C.length : Int) + j)) (clC w t d (gI R i) (gI C j)).1) → CfLC y b I (D ++ gdL (fun i j => (clC w t d (gI R i) (gI C j)).2) (C.length : Int) R.length 0) → P (some q) y) : F_X3_join_110 (b 5) (some qr) (some qc) (some q) 0 y0 c s P := by
  have nIx : ¬ I x := fun g => (r x g).1 hx
  have bx : ∀ k, k < 35 → x ≠ b k := fun k hk g => (ckz_k k hk).2.2 (by rw [← (cw.1 k hk).1, ← g]; exact hx)
  have hm := cnt (nr := (R.length : Int)) (nc := (C.length : Int)) ⟨by omega, by omega⟩ ⟨by omega, by omega⟩
  have f00 : FrZ (WL z b wJc no1 no1) z y0 := FrZ_mono f0 (fun _ _ _ g => g.elim)
  have d00 : CfLC y0 b I D := CfLC_nw cw f0 d0
  generalize hnr : (R.length : Int) = nr at h hm hD S0
  have hR : nr.toNat = R.length := by omega
  generalize hnc : (C.length : Int) = nc at h hm hD S0
  generalize he : (fun i j => (clC w t d (gI R i) (gI C j)).2) = e at h
  have een : ∀ i j, (e i j).length ≤ 1 := fun i j => by rw [← he]; exact clC_n w t d _ _
  have eee : ∀ i j, (clC w t d (gI R i) (gI C j)).2 = e i j := fun i j => by rw [← he]
  unfold F_X3_join_110
  refine lp_I (S := Int × Z × Nat × Nat) (fun p => (0 ≤ p.1 ∧ p.1 ≤ nr) ∧ (nr * nc - p.1 * nc ≤ (p.2.2.1 : Int) ∧ 7 * (nr * nc - p.1 * nc) ≤ (p.2.2.2 : Int)) ∧ FrZ (WL z b wJc no1 no1) z p.2.1 ∧ Shp p.2.1 q qr qc x nr nc ∧ zO p.2.1 q 3 = none ∧ (∀ i j, 0 ≤ i → i < nr → 0 ≤ j → j < nc → i * nc + j < p.1 * nc → ContC p.2.1 I (zO p.2.1 x (i * nc + j)) (clC w t d (gI R i) (gI C j)).1) ∧ ∃ E, CfLC p.2.1 b I E ∧ E ++ gdL e nc (nr - p.1).toNat p.1 = D ++ gdL e nc nr.toNat 0 ∧ (E.length : Int) ≤ D.length + p.1 * nc) (fun p => (nr - p.1).toNat) ?_ (0, y0, c, s) ⟨⟨by show (0 : Int) ≤ 0; decide, by show (0 : Int) ≤ nr; omega⟩, ⟨by show nr * nc - 0 * nc ≤ (c : Int); omega, by show 7 * (nr * nc - 0 * nc) ≤ (s : Int); omega⟩, f00, S0, q3, fun i j i0 i1 j0 j1 g => ?_, D, d00, by show D ++ gdL e nc (nr - 0).toNat 0 = _; rw [Int.sub_zero], by show (D.length : Int) ≤ D.length + 0 * nc; omega⟩
  rotate_left
  · exfalso
    replace g : i * nc + j < 0 * nc := g
    have := (rcix i0 i1 j0 j1).1
    omega
  rintro G ⟨i, y, c', s'⟩ ⟨⟨i0, i1⟩, ⟨rc, rs⟩, fy, Sy, y3, cy_, E, dE, eE, nE⟩ ih
  simp only at i0 i1 rc rs fy Sy y3 cy_ dE eE nE
  unfold L_X3_join_110
  dsimp only
  have hiw : i * nc ≤ nr * nc := Int.mul_le_mul_of_nonneg_right i1 (by omega)
  have hiw0 : 0 ≤ i * nc := Int.mul_nonneg i0 (by omega)
  obtain ⟨l1, l2, l3⟩ := LnQ_fr fy bqr lr
  refine ⟨qr, rfl, l1, ?_⟩
  rw [l2, hnr]
  by_cases ei : nr ≤ i
  · rw [if_pos ei]
    have e1 : i = nr := by omega
    rw [e1, Int.sub_self, show (0 : Int).toNat = 0 from rfl, gdL, List.append_nil] at eE
    show P (some q) y
    exact h y fy Sy y3 (fun i' j' a1 a2 a3 a4 => cy_ i' j' a1 a2 a3 a4 (by rw [e1]; exact (rcix a1 a2 a3 a4).2)) (by rw [← hR]; exact eE ▸ dE)
  · rw [if_neg ei]
    have hiw2 : (i + 1) * nc ≤ nr * nc := Int.mul_le_mul_of_nonneg_right (by omega) (by omega)
    have eiw : (i + 1) * nc = i * nc + nc := by rw [Int.add_mul, Int.one_mul]
    rw [show (nr - i).toNat = (nr - (i + 1)).toNat + 1 by omega, gdL, ← List.append_assoc] at eE
    unfold F_X3_join_121
    refine lp_I (S := Int × Z × Nat × Nat) (fun p => (0 ≤ p.1 ∧ p.1 ≤ nc) ∧ (nr * nc - (i * nc + p.1) ≤ (p.2.2.1 : Int) ∧ 7 * (nr * nc - (i * nc + p.1)) ≤ (p.2.2.2 : Int)) ∧ FrZ (WL z b wJc no1 no1) z p.2.1 ∧ Shp p.2.1 q qr qc x nr nc ∧ zO p.2.1 q 3 = none ∧ (∀ i' j', 0 ≤ i' → i' < nr → 0 ≤ j' → j' < nc → i' * nc + j' < i * nc + p.1 → ContC p.2.1 I (zO p.2.1 x (i' * nc + j')) (clC w t d (gI R i') (gI C j')).1) ∧ ∃ E', CfLC p.2.1 b I E' ∧ E' ++ gdR e i (nc - p.1).toNat p.1 = E ++ gdR e i nc.toNat 0 ∧ (E'.length : Int) ≤ D.length + (i * nc + p.1)) (fun p => (nc - p.1).toNat) ?_ (0, y, c', s') ⟨⟨by show (0 : Int) ≤ 0; decide, by show (0 : Int) ≤ nc; omega⟩, ⟨by show nr * nc - (i * nc + 0) ≤ (c' : Int); omega, by show 7 * (nr * nc - (i * nc + 0)) ≤ (s' : Int); omega⟩, fy, Sy, y3, fun i' j' a1 a2 a3 a4 g => cy_ i' j' a1 a2 a3 a4 (by replace g : i' * nc + j' < i * nc + 0 := g; omega), E, dE, by show E ++ gdR e i (nc - 0).toNat 0 = _; rw [Int.sub_zero], by show (E.length : Int) ≤ D.length + (i * nc + 0); omega⟩
    rintro G2 ⟨j, v, c3, s3⟩ ⟨⟨j0, j1⟩, ⟨rc2, rs2⟩, fv, Sv, v3, cv_, F, dF, eF, nF⟩ ih2
    simp only at j0 j1 rc2 rs2 fv Sv v3 cv_ dF eF nF
    unfold L_X3_join_121
    dsimp only
    obtain ⟨m1, m2, m3⟩ := LnQ_fr fv bqc lc
    refine ⟨qc, rfl, m1, ?_⟩
    rw [m2, hnc]
    by_cases ej : nc ≤ j
    · rw [if_pos ej]
      have e1 : j = nc := by omega
      rw [e1, Int.sub_self, show (0 : Int).toNat = 0 from rfl, gdR, List.append_nil] at eF
      show G (w32 (i + 1), v, c3, s3)
      rw [w32e (by omega) (by omega)]
      refine ih (i + 1, v, c3, s3) ⟨⟨by show 0 ≤ i + 1; omega, by show i + 1 ≤ nr; omega⟩, ⟨by show nr * nc - (i + 1) * nc ≤ (c3 : Int); omega, by show 7 * (nr * nc - (i + 1) * nc) ≤ (s3 : Int); omega⟩, fv, Sv, v3, fun i' j' a1 a2 a3 a4 g => cv_ i' j' a1 a2 a3 a4 (by replace g : i' * nc + j' < (i + 1) * nc := g; omega), F, dF, ?_, by show (F.length : Int) ≤ D.length + (i + 1) * nc; omega⟩ (by show (nr - (i + 1)).toNat < (nr - i).toNat; omega)
      show F ++ gdL e nc (nr - (i + 1)).toNat (i + 1) = _
      rw [eF]; exact eE
    · rw [if_neg ej, w32e (x := i + 1) (by omega) (by omega), w32e (x := j + 1) (by omega) (by omega)]
      obtain ⟨n1, n2, n3⟩ := LnQ_fr fv bqr lr
      have cv := CWz_fr cw fv (by decide)
      refine ⟨qr, rfl, n1, i0, by rw [n2]; omega, j0, by omega, cK cv 5 rfl rfl, 1, 7, by omega, by omega, ?_⟩
      rw [n3 i i0 (by omega), m3 j j0 (by omega)]
      rw [show (nc - j).toNat = (nc - (j + 1)).toNat + 1 by omega, gdR, ← List.append_assoc] at eF
      refine o_joinedCell (WzI_fr r fv (WL_I r) hwz) cw r fv (Mg3_fr cw r fv (by decide) M) cs ct cd (by omega) dF (Nat.le_refl _) (Nat.le_refl _) (fun o v' fv' fvv' co dv' => ?_)
      rw [eee] at dv'
      have q7 : zK v q = 7 := Sv.1
      have x19 : zK v x = 19 := Sv.2.2.2.2.2.2.1
      have bq : ∀ k, k < 35 → q ≠ b k := fun k hk g => (ckz_k k hk).2.2 (by rw [← (cw.1 k hk).1, ← g]; exact hq)
      have nwq : ∀ i, ¬ WL v b wJc no1 no1 q i := fun i => by
        rintro (⟨tt, t1, t2, t3, t4⟩ | ⟨g, -⟩ | ⟨g, -⟩)
        · exact bq _ t2 t3
        · exact g
        · exact g
      have nwx : ∀ i, ¬ WL v b wJc no1 no1 x i := fun i => by
        rintro (⟨tt, t1, t2, t3, t4⟩ | ⟨g, -⟩ | ⟨g, -⟩)
        · exact bx _ t2 t3
        · exact g
        · exact g
      have Sv' : Shp v' q qr qc x nr nc := Shp_fr Sv fvv' (nwq 0) (nwq 1) (nwq 2)
      have x19' : zK v' x = 19 := Sv'.2.2.2.2.2.2.1
      have cv' := CWz_fr cw fv' (by decide)
      refine ⟨q, rfl, Sv'.1, k_put Sv' (fun g hg => (ContC_k co g hg).1) ?_⟩
      rw [if_pos ⟨⟨by omega, by omega⟩, by omega, by omega⟩, Int.add_sub_cancel, Int.add_sub_cancel]
      have fx : FrZ (fun a _ => a = x) v' (wO v' x (i * nc + j) o) := FrZ_wO FrZ_rf (Or.inl rfl)
      have en := een i j
      refine ih2 (j + 1, wO v' x (i * nc + j) o, c3 - 1, s3 - 7) ⟨⟨by show 0 ≤ j + 1; omega, by show j + 1 ≤ nc; omega⟩, ⟨by show nr * nc - (i * nc + (j + 1)) ≤ ((c3 - 1 : Nat) : Int); omega, by show 7 * (nr * nc - (i * nc + (j + 1))) ≤ ((s3 - 7 : Nat) : Int); omega⟩, FrZ_wO fv' (Or.inr hx), Shp_fr Sv' fx (fun g => qx g) (fun g => qx g) (fun g => qx g), ?_, fun i' j' a1 a2 a3 a4 g => ?_, _, CfLC_x cv' x19' nIx bx fx dv', eF, by show (((F ++ e i j).length : Nat) : Int) ≤ D.length + (i * nc + (j + 1)); rw [List.length_append]; omega⟩ (by show (nc - (j + 1)).toNat < (nc - j).toNat; omega)
      · show zO (wO v' x (i * nc + j) o) q 3 = none
        rw [zO_wO, if_neg (fun g => qx g.1), (fvv'.2 q 3 (by rw [q7]; decide) (nwq 3)).2.2]; exact v3
      · replace g : i' * nc + j' < i * nc + (j + 1) := g
        show ContC (wO v' x (i * nc + j) o) I (zO (wO v' x (i * nc + j) o) x (i' * nc + j')) _
        rw [zO_wO]
        by_cases eq : i' * nc + j' = i * nc + j
        · have := ix_inj a3 a4 j0 (by omega) eq
          rw [if_pos ⟨rfl, eq⟩, this.1, this.2]
          exact ContC_fr fx (fun tt _ ht g => nIx (g ▸ ht)) co
        · rw [if_neg (fun g => eq g.2), (fvv'.2 x _ (by rw [x19]; decide) (nwx _)).2.2]
          exact ContC_fr fx (fun tt _ ht g => nIx (g ▸ ht)) (ContC_fr fvv' (WL_I (Frz_fr r fv)) (cv_ i' j' a1 a2 a3 a4 (by omega)))
