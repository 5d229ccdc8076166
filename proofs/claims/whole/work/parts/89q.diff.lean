/-! ===== diff: the system ===== -/
def wDc : WR := [(0, some 10), (10, none)]
def DfC (z : Z) (b : Nat → Nat) (D : List D3) : Prop := zI z (b 0) 10 = (D.length : Int) ∧ ∀ i : Nat, i < D.length → zI z (b 10) (3 * i) = (D.getD i (0, 0, 0)).1 ∧ zI z (b 10) (3 * i + 1) = (D.getD i (0, 0, 0)).2.1 ∧ zI z (b 10) (3 * i + 2) = (D.getD i (0, 0, 0)).2.2
theorem o_note {z y : Z} {b : Nat → Nat} {D : List D3} {n r e : Int} {P : Z → Prop} (c : CWz z b) (f : FrZ (WL z b wDc no1 no1) z y) (d : DfC y b D) (hl : D.length < 406) (h : ∀ w, FrZ (WL z b wDc no1 no1) z w → DfC w b (D ++ [(n, r, e)]) → P w) : F_X11_noteDifference (b 0) n r e y P := by
  obtain ⟨d1, d2⟩ := d
  have cy := CWz_fr c f (by decide)
  have n0 : b 0 ≠ b 10 := cNe c rfl rfl rfl
  have n1 : b 10 ≠ b 0 := cNe c rfl rfl rfl
  unfold F_X11_noteDifference
  refine ⟨cK cy 0 rfl rfl, ?_⟩
  rw [d1, if_pos (by omega), w32e (x := 3 * (D.length : Int)) (by omega) (by omega)]
  refine ⟨b 10, cO cy 0 9 10 (by decide), cK cy 10 rfl rfl, by omega, by rw [cN cy 10 (c := 1218) rfl rfl]; omega, ?_⟩
  rintro _ rfl
  have f1 : FrZ (WL z b wDc no1 no1) z (wI y (b 10) (3 * (D.length : Int)) n) := FrZ_wI f (Or.inl (WL_a (by decide) (by decide)))
  have c1 := CWz_fr c f1 (by decide)
  have e1 : zI (wI y (b 10) (3 * (D.length : Int)) n) (b 0) 10 = (D.length : Int) := by rw [zI_wI, if_neg (fun w => n0 w.1)]; exact d1
  rw [e1, w32e (x := 3 * (D.length : Int)) (by omega) (by omega), w32e (x := 3 * (D.length : Int) + 1) (by omega) (by omega)]
  refine ⟨b 10, cO c1 0 9 10 (by decide), cK c1 10 rfl rfl, by omega, by rw [cN c1 10 (c := 1218) rfl rfl]; omega, ?_⟩
  rintro _ rfl
  have f2 : FrZ (WL z b wDc no1 no1) z (wI (wI y (b 10) (3 * (D.length : Int)) n) (b 10) (3 * (D.length : Int) + 1) r) := FrZ_wI f1 (Or.inl (WL_a (by decide) (by decide)))
  have c2 := CWz_fr c f2 (by decide)
  have e2 : zI (wI (wI y (b 10) (3 * (D.length : Int)) n) (b 10) (3 * (D.length : Int) + 1) r) (b 0) 10 = (D.length : Int) := by rw [zI_wI, if_neg (fun w => n0 w.1)]; exact e1
  rw [e2, w32e (x := 3 * (D.length : Int)) (by omega) (by omega), w32e (x := 3 * (D.length : Int) + 2) (by omega) (by omega)]
  refine ⟨b 10, cO c2 0 9 10 (by decide), cK c2 10 rfl rfl, by omega, by rw [cN c2 10 (c := 1218) rfl rfl]; omega, ?_⟩
  rintro _ rfl
  have e3 : zI (wI (wI (wI y (b 10) (3 * (D.length : Int)) n) (b 10) (3 * (D.length : Int) + 1) r) (b 10) (3 * (D.length : Int) + 2) e) (b 0) 10 = (D.length : Int) := by rw [zI_wI, if_neg (fun w => n0 w.1)]; exact e2
  rw [e3, w32e (by omega) (by omega)]
  rintro _ rfl
  refine h _ (FrZ_wI (FrZ_wI f2 (Or.inl (WL_a (by decide) (by decide)))) (Or.inl (WL_i (by decide) (by decide)))) ⟨?_, fun i hi => ?_⟩
  · rw [zI_wI, if_pos ⟨rfl, rfl⟩, List.length_append]; rfl
  · rw [List.length_append] at hi
    simp only [List.length_cons, List.length_nil] at hi
    rw [gD_app (by omega)]
    have d2i := d2 i
    simp only [zI_wI, if_neg (fun w : b 10 = b 0 ∧ _ => n1 w.1), true_and]
    by_cases ci : i = D.length
    · rw [if_pos ci, ci]
      refine ⟨?_, ?_, ?_⟩
      · rw [if_neg (by omega), if_neg (by omega), if_pos rfl]
      · rw [if_neg (by omega), if_pos rfl]
      · rw [if_pos rfl]
    · rw [if_neg ci]
      obtain ⟨g1, g2, g3⟩ := d2i (by omega)
      refine ⟨?_, ?_, ?_⟩
      · rw [if_neg (by omega), if_neg (by omega), if_neg (by omega)]; exact g1
      · rw [if_neg (by omega), if_neg (by omega), if_neg (by omega)]; exact g2
      · rw [if_neg (by omega), if_neg (by omega), if_neg (by omega)]; exact g3
theorem o_lone {z y : Z} {b : Nat → Nat} {I : Nat → Prop} {a d : Nat} {ax num : Int} {s t : Sh} {D : List D3} {P : Z → Prop} (c : CWz z b) (r : Frz z b I) (hax : ax = 0 ∨ ax = 1) (hs : ShC z I a s) (ht : ShC z I d t) (f : FrZ (WL z b wDc no1 no1) z y) (dy : DfC y b D) (hl : (D.length : Int) + lnS s ax ≤ 406) (h : ∀ w, FrZ (WL z b wDc no1 no1) z w → DfC w b (D ++ lon s t ax num) → P w) : F_X11_noteOnly (b 0) num ax (some a) (some d) y P := by
  have bs := ShC_b hs
  have ls := lnS_b bs ax
  have m32 := mst_32 ax
  have sf : ∀ {w}, FrZ (WL z b wDc no1 no1) z w → ShC w I a s := fun g => ShC_fr g (WL_I r) (WL_7 c) hs
  have tf : ∀ {w}, FrZ (WL z b wDc no1 no1) z w → ShC w I d t := fun g => ShC_fr g (WL_I r) (WL_7 c) ht
  unfold F_X11_noteOnly
  refine ⟨a, rfl, ShC_7 (sf f), o_lineS hax (sf f) (fun la hla iLa => ?_)⟩
  have laz : ∀ {w}, FrZ (WL z b wDc no1 no1) z w → LnC w la s ax := fun {w} g => by
    have k15 : zK z la = 15 := by
      rw [← (f.1 la (r la iLa).1).1]; exact hla.1
    obtain ⟨l1, l2, l3⟩ := hla
    have kne : zK z la ≠ 0 := (r la iLa).1
    refine ⟨(g.1 la kne).1.trans k15, ?_, fun k k0 k1 => ?_⟩
    · rw [(g.1 la kne).2, ← (f.1 la kne).2]; exact l2
    · rw [(g.2 la k kne (WL_I r la k iLa)).1, ← (f.2 la k kne (WL_I r la k iLa)).1]; exact l3 k k0 k1
  unfold F_X11_noteOnly_10
  refine lp_I (fun q => (0 ≤ q.1 ∧ q.1 ≤ lnS s ax) ∧ FrZ (WL z b wDc no1 no1) z q.2 ∧ ∃ E, DfC q.2 b E ∧ E ++ lone s t ax num (lnS s ax - q.1).toNat q.1 = D ++ lon s t ax num ∧ (E.length : Int) ≤ D.length + q.1) (fun q => (lnS s ax - q.1).toNat) ?_ (0, y) ⟨⟨by show (0 : Int) ≤ 0; decide, by show (0 : Int) ≤ _; omega⟩, f, D, dy, by unfold lon; show D ++ lone s t ax num (lnS s ax - 0).toNat 0 = _; rw [Int.sub_zero], by show (D.length : Int) ≤ D.length + 0; omega⟩
  rintro G ⟨k, w⟩ ⟨⟨k0, k1⟩, fw, E, dE, eE, lE⟩ ih
  simp only at k0 k1 fw dE eE lE
  unfold L_X11_noteOnly_10 F_X11_noteOnly_46 F_X11_noteOnly_58 F_X11_noteOnly_61
  dsimp only
  obtain ⟨l1, l2, l3⟩ := laz fw
  have cw := CWz_fr c fw (by decide)
  refine ⟨la, rfl, l1, ?_⟩
  rw [l2]
  by_cases ek : lnS s ax ≤ k
  · rw [if_pos ek]
    rw [show (lnS s ax - k).toNat = 0 by omega, lone, List.append_nil] at eE
    exact h w fw (eE ▸ dE)
  · rw [if_neg ek, w32e (x := k + 1) (by omega) (by omega)]
    rw [show (lnS s ax - k).toNat = (lnS s ax - (k + 1)).toNat + 1 by omega, lone, ← List.append_assoc] at eE
    refine ⟨k0, by omega, d, rfl, ShC_7 (tf fw), o_placeOf (tf fw) ?_⟩
    rw [l3 k k0 (by omega), Int.add_sub_cancel]
    have pm := plS_m t ax (idS s ax k)
    by_cases e1 : plS t ax (idS s ax k) + 1 = 0
    · rw [if_pos e1]
      rw [if_pos (by omega)] at eE
      have fin : ∀ w', FrZ (WL z b wDc no1 no1) z w' → DfC w' b (E ++ [(num, (if ax = 0 then k + 1 else 0), (if ax = 0 then 0 else k + 1))]) → G (k + 1, w') := fun w' fw' dw' => ih (k + 1, w') ⟨⟨by show 0 ≤ k + 1; omega, by show k + 1 ≤ _; omega⟩, fw', _, dw', eE, by show (((E ++ _).length : Nat) : Int) ≤ D.length + (k + 1); rw [List.length_append]; simp only [List.length_cons, List.length_nil]; omega⟩ (by show (_ - (k + 1)).toNat < (_ - k).toNat; omega)
      by_cases ea : ax = 0
      · rw [if_pos ea, if_pos ea]
        rw [if_pos ea, if_pos ea] at fin
        exact ⟨b 0, rfl, cK cw 0 rfl rfl, o_note c fw dE (by omega) fin⟩
      · rw [if_neg ea, if_neg ea]
        rw [if_neg ea, if_neg ea] at fin
        exact ⟨b 0, rfl, cK cw 0 rfl rfl, o_note c fw dE (by omega) fin⟩
    · rw [if_neg e1]
      rw [if_neg (by omega), List.append_nil] at eE
      exact ih (k + 1, w) ⟨⟨by show 0 ≤ k + 1; omega, by show k + 1 ≤ _; omega⟩, fw, E, dE, eE, by show (E.length : Int) ≤ D.length + (k + 1); omega⟩ (by show (_ - (k + 1)).toNat < (_ - k).toNat; omega)
theorem o_cells {z y : Z} {b : Nat → Nat} {I : Nat → Prop} {a d : Nat} {s t : Sh} {D : List D3} {P : Z → Prop} (W : ∀ w, FrZ (WL z b wDc no1 no1) z w → WzI w I) (c : CWz z b) (r : Frz z b I) (hs : ShC z I a s) (ht : ShC z I d t) (cs : CoS s) (ct : CoS t) (f : FrZ (WL z b wDc no1 no1) z y) (dy : DfC y b D) (hl : D.length ≤ 86) (h : ∀ w, FrZ (WL z b wDc no1 no1) z w → DfC w b (D ++ cellL s t t.1.1.toNat 0) → P w) : F_X11_noteCells (b 0) (some a) (some d) y P := by
  have bs := ShC_b hs
  have bt := ShC_b ht
  have b1 := bt.1
  have b2 := bt.2
  have sf : ∀ {w}, FrZ (WL z b wDc no1 no1) z w → ShC w I a s := fun g => ShC_fr g (WL_I r) (WL_7 c) hs
  have tf : ∀ {w}, FrZ (WL z b wDc no1 no1) z w → ShC w I d t := fun g => ShC_fr g (WL_I r) (WL_7 c) ht
  unfold F_X11_noteCells F_X11_noteCells_2
  refine lp_I (fun q => (1 ≤ q.1 ∧ q.1 ≤ t.1.1 + 1) ∧ FrZ (WL z b wDc no1 no1) z q.2 ∧ ∃ E, DfC q.2 b E ∧ E ++ cellL s t (t.1.1 + 1 - q.1).toNat (q.1 - 1) = D ++ cellL s t t.1.1.toNat 0 ∧ (E.length : Int) ≤ D.length + 10 * (q.1 - 1)) (fun q => (t.1.1 + 1 - q.1).toNat) ?_ (1, y) ⟨⟨by show (1 : Int) ≤ 1; decide, by show (1 : Int) ≤ _; omega⟩, f, D, dy, by show D ++ cellL s t (t.1.1 + 1 - 1).toNat (1 - 1) = _; rw [Int.add_sub_cancel]; rfl, by show (D.length : Int) ≤ D.length + 10 * (1 - 1); omega⟩
  rintro G ⟨k, w⟩ ⟨⟨k0, k1⟩, fw, E, dE, eE, lE⟩ ih
  simp only at k0 k1 fw dE eE lE
  unfold L_X11_noteCells_2
  dsimp only
  obtain ⟨rw_, cw_, xw_, Sp, -⟩ := tf fw
  obtain ⟨s1, s2, s3, s4, s5, s6, s7, s8, s9, -⟩ := Sp
  refine ⟨d, rfl, s1, rw_, s2, s5, ?_⟩
  rw [s8]
  by_cases ek : t.1.1 < k
  · rw [if_pos ek]
    rw [show (t.1.1 + 1 - k).toNat = 0 by omega, cellL, List.append_nil] at eE
    exact h w fw (eE ▸ dE)
  · rw [if_neg ek]
    rw [show (t.1.1 + 1 - k).toNat = (t.1.1 + 1 - (k + 1)).toNat + 1 by omega, cellL, show k - 1 + 1 = k + 1 - 1 by omega] at eE
    unfold F_X11_noteCells_14
    refine lp_I (fun q => (1 ≤ q.1 ∧ q.1 ≤ t.1.2 + 1) ∧ FrZ (WL z b wDc no1 no1) z q.2 ∧ ∃ E', DfC q.2 b E' ∧ E' ++ cellR s t (k - 1) (t.1.2 + 1 - q.1).toNat (q.1 - 1) = E ++ cellR s t (k - 1) t.1.2.toNat 0 ∧ (E'.length : Int) ≤ E.length + (q.1 - 1)) (fun q => (t.1.2 + 1 - q.1).toNat) ?_ (1, w) ⟨⟨by show (1 : Int) ≤ 1; decide, by show (1 : Int) ≤ _; omega⟩, fw, E, dE, by show E ++ cellR s t (k - 1) (t.1.2 + 1 - 1).toNat (1 - 1) = _; rw [Int.add_sub_cancel]; rfl, by show (E.length : Int) ≤ E.length + (1 - 1); omega⟩
    rintro G2 ⟨j, v⟩ ⟨⟨j0, j1⟩, fv, F, dF, eF, lF⟩ ih2
    simp only at j0 j1 fv dF eF lF
    unfold L_X11_noteCells_14 F_X11_noteCells_96
    dsimp only
    have cv := CWz_fr c fv (by decide)
    have tv := tf fv
    have sv := sf fv
    obtain ⟨rv, cvv, xv, Tp, -, -, -, t4, t5, -⟩ := id tv
    obtain ⟨u1, u2, u3, u4, u5, u6, u7, u8, u9, -⟩ := Tp
    refine ⟨d, rfl, u1, cvv, u3, u6, ?_⟩
    rw [u9]
    by_cases ej : t.1.2 < j
    · rw [if_pos ej]
      rw [show (t.1.2 + 1 - j).toNat = 0 by omega, cellR, List.append_nil] at eF
      show G (w32 (k + 1), v)
      rw [w32e (by omega) (by omega)]
      refine ih (k + 1, v) ⟨⟨by show 1 ≤ k + 1; omega, by show k + 1 ≤ _; omega⟩, fv, F, dF, ?_, by show (F.length : Int) ≤ D.length + 10 * (k + 1 - 1); omega⟩ (by show (_ - (k + 1)).toNat < (_ - k).toNat; omega)
      show F ++ cellL s t (t.1.1 + 1 - (k + 1)).toNat (k + 1 - 1) = _
      rw [eF, List.append_assoc]; exact eE
    · rw [if_neg ej, w32e (x := k - 1) (by omega) (by omega), w32e (x := j - 1) (by omega) (by omega), w32e (x := j + 1) (by omega) (by omega)]
      refine ⟨rv, u2, u5, by omega, by rw [u8]; omega, a, rfl, ShC_7 sv, o_placeOf sv ?_⟩
      rw [t4 (k - 1) (by omega) (by omega), Int.add_sub_cancel]
      refine ⟨by omega, by omega, o_placeOf sv ?_⟩
      rw [t5 (j - 1) (by omega) (by omega), Int.add_sub_cancel]
      obtain ⟨ra, ca, xa, Ap, -, -, -, -, -, -⟩ := id sv
      refine k_has Ap ?_
      rw [show (t.1.2 + 1 - j).toNat = (t.1.2 + 1 - (j + 1)).toNat + 1 by omega, cellR, ← List.append_assoc, show j - 1 + 1 = j + 1 - 1 by omega] at eF
      have g1 := plS_m s 0 (t.2.1 (k - 1))
      have g2 := plS_m s 1 (t.2.2.1 (j - 1))
      have same : cellE s t (k - 1) (j - 1) = [] → G2 (j + 1, v) := fun e => by
        rw [e, List.append_nil] at eF
        exact ih2 (j + 1, v) ⟨⟨by show 1 ≤ j + 1; omega, by show j + 1 ≤ _; omega⟩, fv, F, dF, eF, by show (F.length : Int) ≤ E.length + (j + 1 - 1); omega⟩ (by show (_ - (j + 1)).toNat < (_ - j).toNat; omega)
      by_cases kn : knowsP s (t.2.1 (k - 1)) (t.2.2.1 (j - 1))
      · have kn1 := kn.1
        have kn2 := kn.2
        have p1 := (plS_r kn1).1
        have p2 := (plS_c kn2).1
        rw [show tb ((1 ≤ plS s 0 (t.2.1 (k - 1)) + 1 ∧ plS s 0 (t.2.1 (k - 1)) + 1 ≤ s.1.1) ∧ (1 ≤ plS s 1 (t.2.2.1 (j - 1)) + 1 ∧ plS s 1 (t.2.2.1 (j - 1)) + 1 ≤ s.1.2)) = 1 by rw [tb, if_pos ⟨⟨by omega, by omega⟩, by omega, by omega⟩], if_neg (by decide)]
        refine o_cellAt sv (fun q hq => o_cellAt tv (fun q' hq' => ?_))
        rw [if_pos ⟨⟨by omega, by omega⟩, by omega, by omega⟩, Int.add_sub_cancel, Int.add_sub_cancel] at hq
        rw [if_pos ⟨⟨by omega, by omega⟩, by omega, by omega⟩] at hq'
        have ec : cOf s (t.2.1 (k - 1)) (t.2.2.1 (j - 1)) = s.2.2.2 (plS s 0 (t.2.1 (k - 1))) (plS s 1 (t.2.2.1 (j - 1))) := by unfold cOf; rw [if_pos kn]
        refine o_alike (W v fv) hq hq' (cs _ _ kn1 p1 kn2 p2) (ct _ _ (by omega) (by omega) (by omega) (by omega)) (fun e => ?_) (fun e => ?_)
        · rw [if_neg (by decide)]
          exact same (by unfold cellE; exact ci_0 (fun w => w.2 (ec.trans e)))
        · rw [if_pos rfl]
          have ee : cellE s t (k - 1) (j - 1) = [(7, k, j)] := by
            unfold cellE
            rw [ci_1 ⟨kn, fun w => e (ec.symm.trans w)⟩, show k - 1 + 1 = k by omega, show j - 1 + 1 = j by omega]
          rw [ee] at eF
          refine ⟨cK cv 0 rfl rfl, o_note c fv dF (by omega) (fun w' fw' dw' => ?_)⟩
          exact ih2 (j + 1, w') ⟨⟨by show 1 ≤ j + 1; omega, by show j + 1 ≤ _; omega⟩, fw', _, dw', eF, by show (((F ++ _).length : Nat) : Int) ≤ E.length + (j + 1 - 1); rw [List.length_append]; simp only [List.length_cons, List.length_nil]; omega⟩ (by show (_ - (j + 1)).toNat < (_ - j).toNat; omega)
      · rw [show tb ((1 ≤ plS s 0 (t.2.1 (k - 1)) + 1 ∧ plS s 0 (t.2.1 (k - 1)) + 1 ≤ s.1.1) ∧ (1 ≤ plS s 1 (t.2.2.1 (j - 1)) + 1 ∧ plS s 1 (t.2.2.1 (j - 1)) + 1 ≤ s.1.2)) = 0 by rw [tb, if_neg (fun w => kn ⟨by have := w.1.1; omega, by have := w.2.1; omega⟩)], if_pos rfl]
        exact same (by unfold cellE; exact ci_0 (fun w => kn w.1))
theorem RCq_d {z y : Z} {b : Nat → Nat} {I : Nat → Prop} {s : SQ} {D : List D3} (c : CWz z b) (r : Frz z b I) (f : FrZ (WL z b wDc no1 no1) z y) (d : DfC y b D) (hl : D.length ≤ 406) (h : RCq z b I s) : RCq y b I (s.1, s.2.1, (D.length : Int), fun k => D.getD k.toNat (0, 0, 0)) := by
  obtain ⟨⟨h1, h2, h3⟩, -, -⟩ := h
  have e30 := fun k => (bI c f (R := [(30, none)]) (by decide) (k := 30) (by decide) (i := k) (wHas_a (by decide))).2.2
  unfold RCq
  rw [(bI c f (R := [(5, some 2)]) (by decide) (k := 5) (by decide) (i := 2) (wHas_i (by decide))).1]
  refine ⟨⟨h1, fun k k0 k1 => ?_, fun j k => ?_⟩, ⟨d.1, by show (0 : Int) ≤ (D.length : Int); omega, by show (D.length : Int) ≤ 406; omega⟩, fun k k0 k1 => ?_⟩
  · rw [e30]; exact CfC_fr c r f (fun _ _ w => w) (h2 k k0 k1)
  · rw [e30, e30]; exact h3 j k
  · replace k1 : k < (D.length : Int) := k1
    have q := d.2 k.toNat (by omega)
    rw [Int.toNat_of_nonneg k0] at q
    exact q
theorem diffL_n {s t : Sh} (bs : ShB s) (bt : ShB t) : (diffL s t).length ≤ 406 := by
  have l1 := lon_n bs t 1
  have l2 := lon_n bt s 2
  have l3 := lon_n bs t 3
  have l4 := lon_n bt s 4
  have o0 := dOrd_n s t 0
  have o1 := dOrd_n s t 1
  have cl := cellL_n s t bt.2.2 t.1.1.toNat 0
  have := bt.1.2
  unfold diffL
  simp only [List.length_append, List.length_nil]
  omega
theorem o_diff {z : Z} {b : Nat → Nat} {I : Nat → Prop} {S : SS} {v w : Int} {cc s : Nat} {P : Int → Z → Prop} {X : Nat → Z → Prop} (W : ∀ y, FrZ (WL z b wDc no1 no1) z y → WzI y I) (R : RC z b I S) (cv : isShP v S → CoS (shOf v S) ∧ DsS (shOf v S)) (cw2 : isShP w S → CoS (shOf w S) ∧ DsS (shOf w S)) (hc : 1 ≤ cc) (hs : 6 ≤ s) (hx1 : (pDiff v w S).1 = 1 → X 4 z) (h : (pDiff v w S).1 = 0 → ∀ y, FrZ (WL z b wDc no1 no1) z y → RC y b I (pDiff v w S).2.2 → P (pDiff v w S).2.1 y) : F_X11_diff (b 0) v w z cc s P X := by
  obtain ⟨c, r, ht, hl, hb, hk, hq⟩ := id R
  unfold F_X11_diff F_X11_diff_22
  unfold pDiff at hx1 h
  have thr : ¬ (isShP v S ∧ isShP w S) → 1 ≤ cc ∧ 6 ≤ s ∧ X 4 z := fun e => by
    rw [if_neg e] at hx1; exact ⟨hc, hs, hx1 rfl⟩
  refine ⟨cK c 0 rfl rfl, o_sheetOf R (fun hv a sa _ _ => ?_) (fun hv => ?_)⟩
  rotate_left
  · refine o_sheetOf R (fun _ d _ _ _ => ?_) (fun _ => ?_)
    · rw [if_pos rfl]; exact thr (fun q => hv q.1)
    · rw [if_pos rfl]; exact thr (fun q => hv q.1)
  refine o_sheetOf R (fun hw d sd _ _ => ?_) (fun hw => ?_)
  rotate_left
  · rw [if_neg (by simp), if_pos rfl]; exact thr (fun q => hw q.2)
  rw [if_neg (by simp), if_neg (by simp)]
  rw [if_pos ⟨hv, hw⟩] at h
  clear thr hx1
  obtain ⟨cs, ds⟩ := cv hv
  obtain ⟨ct, dt⟩ := cw2 hw
  have bs := ShC_b sa
  have bt := ShC_b sd
  have hn := diffL_n bs bt
  generalize hS1 : shOf v S = s1 at h sa cs ds bs hn
  generalize hS2 : shOf w S = t1 at h sd ct dt bt hn
  rintro _ rfl
  have f0 : FrZ (WL z b wDc no1 no1) z (wI z (b 0) 10 0) := FrZ_wI FrZ_rf (Or.inl (WL_i (by decide) (by decide)))
  have d0 : DfC (wI z (b 0) 10 0) b [] := ⟨by rw [zI_wI, if_pos ⟨rfl, rfl⟩]; rfl, fun i hi => absurd hi (by show ¬ i < 0; omega)⟩
  generalize wI z (b 0) 10 0 = y0 at f0 d0
  have l1 := lon_n bs t1 1
  have l2 := lon_n bt s1 2
  have l3 := lon_n bs t1 3
  have l4 := lon_n bt s1 4
  have q1 := (lnS_b bs 0).2
  have q2 := (lnS_b bs 1).2
  have q3 := (lnS_b bt 0).2
  have q4 := (lnS_b bt 1).2
  have m0 : mst 0 = 32 := rfl
  have m1 : mst 1 = 10 := rfl
  have sf : ∀ {w}, FrZ (WL z b wDc no1 no1) z w → ShC w I a s1 := fun g => ShC_fr g (WL_I r) (WL_7 c) sa
  have tf : ∀ {w}, FrZ (WL z b wDc no1 no1) z w → ShC w I d t1 := fun g => ShC_fr g (WL_I r) (WL_7 c) sd
  refine o_lone (D := []) c r (Or.inl rfl) sa sd f0 d0 (by show (0 : Int) + _ ≤ 406; omega) (fun y1 f1 d1 => ⟨cK (CWz_fr c f1 (by decide)) 0 rfl rfl, ?_⟩)
  refine o_lone c r (Or.inl rfl) sd sa f1 d1 (by rw [List.nil_append]; omega) (fun y2 f2 d2 => ⟨cK (CWz_fr c f2 (by decide)) 0 rfl rfl, ?_⟩)
  refine o_lone c r (Or.inr rfl) sa sd f2 d2 (by rw [List.nil_append, List.length_append]; omega) (fun y3 f3 d3 => ⟨cK (CWz_fr c f3 (by decide)) 0 rfl rfl, ?_⟩)
  refine o_lone c r (Or.inr rfl) sd sa f3 d3 (by rw [List.nil_append, List.length_append, List.length_append]; omega) (fun y4 f4 d4 => ?_)
  have z1 : ([] ++ lon s1 t1 0 1 ++ lon t1 s1 0 2 ++ lon s1 t1 1 3 ++ lon t1 s1 1 4).length ≤ 84 := by rw [List.nil_append, List.length_append, List.length_append, List.length_append]; omega
  have hdl : diffL s1 t1 = ((([] ++ lon s1 t1 0 1 ++ lon t1 s1 0 2 ++ lon s1 t1 1 3 ++ lon t1 s1 1 4) ++ dOrd s1 t1 0) ++ dOrd s1 t1 1) ++ cellL s1 t1 t1.1.1.toNat 0 := rfl
  generalize ([] ++ lon s1 t1 0 1 ++ lon t1 s1 0 2 ++ lon s1 t1 1 3 ++ lon t1 s1 1 4) = E at d4 z1 hdl
  have o0 := dOrd_n s1 t1 0
  have o1 := dOrd_n s1 t1 1
  obtain ⟨ra, ca, ⟨ra1, ra2, -⟩, -⟩ := ShC_ln (sf f4)
  obtain ⟨rd, cd, ⟨rd1, rd2, -⟩, -⟩ := ShC_ln (tf f4)
  refine ⟨a, rfl, ShC_7 (sf f4), d, rfl, ShC_7 (tf f4), ?_⟩
  rw [ra1, rd1]
  have fin : ∀ y, FrZ (WL z b wDc no1 no1) z y → DfC y b ((E ++ dOrd s1 t1 0) ++ dOrd s1 t1 1) → F_X11_diff_126 (b 0) (some a) (some d) y cc s P X := fun y fy dy => by
    unfold F_X11_diff_126
    refine ⟨cK (CWz_fr c fy (by decide)) 0 rfl rfl, o_cells W c r sa sd cs ct fy dy (by rw [List.length_append, List.length_append]; omega) (fun y6 f6 d6 => ⟨cK (CWz_fr c f6 (by decide)) 0 rfl rfl, ?_⟩)⟩
    rw [← hdl] at d6
    rw [d6.1]
    exact h rfl y6 f6 ⟨CWz_fr c f6 (by decide), Frz_fr r f6, RCt_fr c f6 (by decide) ht, RCl_fr c r f6 (by decide) hl, RCb_fr c f6 (by decide) hb, RCk_fr c r f6 (by decide) hk, RCq_d c r f6 d6 hn hq⟩
  have mid : ∀ y, FrZ (WL z b wDc no1 no1) z y → DfC y b (E ++ dOrd s1 t1 0) → F_X11_diff_98 (b 0) (some a) (some d) y cc s P X := fun y fy dy => by
    unfold F_X11_diff_98
    obtain ⟨-, cay, -, ca1, ca2, -⟩ := ShC_ln (sf fy)
    obtain ⟨-, cdy, -, cd1, cd2, -⟩ := ShC_ln (tf fy)
    refine ⟨a, rfl, ShC_7 (sf fy), d, rfl, ShC_7 (tf fy), ?_⟩
    rw [ca1, cd1]
    refine o_sameOrder (Or.inr rfl) ca2 cd2 cd2 bs bt bt ds dt ?_
    by_cases oo : ordP s1 t1 t1 1
    · rw [cb_1 oo, if_neg (by decide)]
      exact fin y fy (by rw [show dOrd s1 t1 1 = [] by unfold dOrd; exact ci_1 oo, List.append_nil]; exact dy)
    · rw [cb_0 oo, if_pos rfl]
      refine ⟨cK (CWz_fr c fy (by decide)) 0 rfl rfl, o_note c fy dy (by rw [List.length_append]; omega) (fun y3 fy3 dy3 => ?_)⟩
      exact fin y3 fy3 (by rw [show dOrd s1 t1 1 = [(5 + 1, 0, 0)] by unfold dOrd; exact ci_0 oo]; exact dy3)
  refine o_sameOrder (Or.inl rfl) ra2 rd2 rd2 bs bt bt ds dt ?_
  by_cases oo : ordP s1 t1 t1 0
  · rw [cb_1 oo, if_neg (by decide)]
    exact mid y4 f4 (by rw [show dOrd s1 t1 0 = [] by unfold dOrd; exact ci_1 oo, List.append_nil]; exact d4)
  · rw [cb_0 oo, if_pos rfl]
    refine ⟨cK (CWz_fr c f4 (by decide)) 0 rfl rfl, o_note c f4 d4 (by omega) (fun y3 fy3 dy3 => ?_)⟩
    exact mid y3 fy3 (by rw [show dOrd s1 t1 0 = [(5 + 0, 0, 0)] by unfold dOrd; exact ci_0 oo]; exact dy3)
