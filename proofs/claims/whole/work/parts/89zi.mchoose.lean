/-! ===== choose: the reference ===== -/
theorem i_goLine {u1 : Mu} {N : Int} {T : SS} {ax p kept : Int} {P : Mu → Prop} (hB : Bd T) (hD : DsS T.2.2.2.1.1) (R1 : RM u1 N T) (e : ax = 0 ∨ ax = 1) (hk1 : 41 ≤ kept ∧ kept ≤ 80) (hkm : ShM u1 kept T.2.2.2.1.1) (e1 : 1 ≤ p ∧ p ≤ lnS T.2.2.2.1.1 ax) (e2 : lnS T.2.2.2.1.1 ax ≠ 1) (h : ∀ v, RM v N (setW T (shA T.2.2.2.1.1 ax (lnS T.2.2.2.1.1 ax - 1) (wotF (idS T.2.2.2.1.1 ax) p))) → FrM wUm u1 v → (mI v 0 0 = mI u1 0 0 ∧ mI v 0 65 = mI u1 0 65) → P v) : F_X12_goLine ax p kept u1 P := by
  have bw := hB.2.2.2.1.1
  have m1 : ShM u1 40 T.2.2.2.1.1 := R1.2.2.2.2.1.1
  have lb := lnS_b bw ax
  have mb := mst_b ax
  unfold F_X12_goLine
  refine i_linesOf (by decide) (by decide) ?_
  rw [ShM_ln m1 ax]
  unfold F_X12_goLine_12
  have W0 := W4_0 u1 ax
  rw [ShM_ln m1 ax] at W0
  refine lp_I (fun q => (p ≤ q.1 ∧ q.1 ≤ lnS T.2.2.2.1.1 ax) ∧ W4 u1 q.2 ax (fun j => if p - 1 ≤ j ∧ j < q.1 - 1 then lnD u1 kept ax (j + 1) else lnD u1 40 ax j) (lnS T.2.2.2.1.1 ax)) (fun q => (lnS T.2.2.2.1.1 ax - q.1).toNat) ?_ (p, u1) ⟨⟨Int.le_refl _, e1.2⟩, W4_x W0 (fun j a c => by dsimp only; rw [if_neg (by omega)]; exact ⟨rfl, fun _ _ _ => rfl⟩)⟩
  rintro G ⟨j, w⟩ ⟨⟨j0, j1⟩, Ww⟩ ih
  simp only at j0 j1 Ww
  unfold L_X12_goLine_12
  dsimp only
  by_cases e3 : lnS T.2.2.2.1.1 ax ≤ j
  · rw [if_pos e3]
    have ej : j = lnS T.2.2.2.1.1 ax := by omega
    rw [ej] at Ww
    show F_X12_emptyLine ax (w32 (lnS T.2.2.2.1.1 ax - 1)) w _
    rw [w32e (x := lnS T.2.2.2.1.1 ax - 1) (by omega) (by omega)]
    refine i_emptyLine e Ww (by omega) (by omega) (fun w2 W2 => i_setLines ?_)
    have W3 := W4_ln (m := lnS T.2.2.2.1.1 ax - 1) e W2
    generalize lnw w2 ax (lnS T.2.2.2.1.1 ax - 1) = w3 at W3 ⊢
    have sa := shA_ln T.2.2.2.1.1 ax (lnS T.2.2.2.1.1 ax - 1) (wotF (idS T.2.2.2.1.1 ax) p) e
    refine h w3 ?_ (FrM_sub W3.2.1 (by decide)) ?_
    · refine W4_RM (S := T) e hB R1 W3 (by omega) sa.1 sa.2.1 (fun k _ _ => by rw [sa.2.2.2]) (fun i a c => ?_) (fun i k a c d g => ?_)
      · rw [sa.2.2.1]
        unfold upL
        rw [if_neg (by omega)]
        unfold wotF
        dsimp only
        by_cases q1 : i < p - 1
        · rw [if_pos q1, if_neg (show ¬ (p - 1 ≤ i ∧ i < lnS T.2.2.2.1.1 ax - 1) by omega)]; exact ShM_id m1 ax i a (by omega)
        · rw [if_neg q1, if_pos (show (p - 1 ≤ i ∧ i < lnS T.2.2.2.1.1 ax - 1) by omega)]; exact ShM_id hkm ax (i + 1) (by omega) (by omega)
      · rw [shA_c T.2.2.2.1.1 ax _ _ e]
        rw [sa.2.1] at g
        unfold upL
        rw [if_neg (by omega)]
        unfold wotF
        dsimp only
        by_cases q1 : i < p - 1
        · rw [if_pos q1, if_neg (show ¬ (p - 1 ≤ i ∧ i < lnS T.2.2.2.1.1 ax - 1) by omega), plS_id hD e a (by omega), if_pos a]
          exact ShM_c e m1 a (by omega) d g
        · rw [if_neg q1, if_pos (show (p - 1 ≤ i ∧ i < lnS T.2.2.2.1.1 ax - 1) by omega), plS_id hD e (by omega) (by omega), if_pos (by omega)]
          exact ShM_c e hkm (by omega) (by omega) d g
    · exact ⟨mE W3.2.1 (R := [(0, some 0)]) (by decide) (k := 0) (i := 0) (wHas_i (by decide)), e65 W3.2.1 (by decide)⟩
  · rw [if_neg e3, w32e (x := j - 1) (by omega) (by omega), w32e (x := j + 1) (by omega) (by omega)]
    refine i_comeLine e Ww (by omega) (by omega) hk1.1 (by omega) (by omega) (by omega) (fun w2 W2 => ?_)
    refine ih (j + 1, w2) ⟨⟨by show p ≤ j + 1; omega, by show j + 1 ≤ _; omega⟩, W4_x W2 (fun i a c => ?_)⟩ (by show (lnS T.2.2.2.1.1 ax - (j + 1)).toNat < (lnS T.2.2.2.1.1 ax - j).toNat; omega)
    unfold upL
    dsimp only
    by_cases q1 : i = j - 1
    · rw [if_pos q1, if_pos (by omega), show i + 1 = j by omega]; exact ⟨rfl, fun _ _ _ => rfl⟩
    · rw [if_neg q1]
      by_cases q2 : p - 1 ≤ i ∧ i < j - 1
      · rw [if_pos q2, if_pos (by omega)]; exact ⟨rfl, fun _ _ _ => rfl⟩
      · rw [if_neg q2, if_neg (by omega)]; exact ⟨rfl, fun _ _ _ => rfl⟩
def wCh : WR := (97, none) :: wUm
theorem i_choose {u : Mu} {N : Int} {S : SS} {i th : Int} {P : Int → Mu → Prop} (hB : Bd S) (hD : DsS S.2.2.2.1.1) (kd : KdP S) (R : RM u N S) (h : ∀ v, RM v N (pChoose i th S).2.2 → FrM wCh u v → (mI v 0 0 = ((pChoose i th S).1 : Int) ∧ Q65 u v S (pChoose i th S).2.2) → P (pChoose i th S).2.1 v) : F_X12_choose i th u P := by
  unfold F_X12_choose
  rintro _ rfl
  have R' := RM_thr (x := 0) hB R
  have f : FrM wCh u (uI u 0 0 0) := FrM_uI FrM_rf (wHas_i (by decide))
  have z0 : mI (uI u 0 0 0) 0 0 = 0 := by rw [mI_uI, if_pos ⟨rfl, rfl⟩]
  generalize hx : uI u 0 0 0 = x at R' f z0 ⊢
  obtain ⟨⟨n1, n2⟩, ht, hl, hb, hk, hq⟩ := id R'
  have b1 := hB.2.2.2.2.1
  unfold pChoose at h
  rw [hq.1.1, w32e (x := S.2.2.2.2.1 - 1) (by omega) (by omega)]
  refine i_in ?_
  by_cases e : 0 ≤ i ∧ i < S.2.2.2.2.1
  rotate_left
  · rw [show tb (0 ≤ i ∧ i ≤ S.2.2.2.2.1 - 1) = 0 by rw [tb, if_neg (by omega)], if_pos rfl]
    rw [if_neg e] at h
    exact i_throwing (h _ (RM_thr hB R') (FrM_uI f (wHas_i (by decide))) ⟨by rw [mI_uI, if_pos ⟨rfl, rfl⟩]; rfl, by rw [← hx]; exact Q65_t⟩)
  rw [show tb (0 ≤ i ∧ i ≤ S.2.2.2.2.1 - 1) = 1 by rw [tb, if_pos (by omega)], if_neg (by decide)]
  rw [if_pos e] at h
  refine i_step hB R' (fun u1 kept R1 f1 z1 hkept mkept => ?_)
  refine ⟨e.1, by omega, ?_⟩
  rintro _ rfl
  have hB1 := Bd_step0 hB
  have fs : FrM [(97, none)] u1 (uI u1 97 i 1) := FrM_uI FrM_rf (wHas_a (by decide))
  have fu2 : FrM wCh u (uI u1 97 i 1) := FrM_uI (FrM_tr f (FrM_sub f1 (by decide))) (wHas_a (by decide))
  have z2 : mI (uI u1 97 i 1) 0 0 = 0 ∧ mI (uI u1 97 i 1) 0 65 = 0 := ⟨by rw [mI_uI, if_neg (by omega), z1.1]; exact z0, by rw [mI_uI, if_neg (by omega)]; exact z1.2⟩
  have g2 := Grw_fr R1.1.1.1 fs (by decide)
  have pq : (pStep0 S).2.2.2.2 = S.2.2.2.2 := rfl
  have e97 : ∀ k, mI (uI u1 97 i 1) 97 k = if k = i then 1 else mI u1 97 k := fun k => by
    rw [mI_uI]
    by_cases c : k = i
    · rw [if_pos ⟨rfl, c⟩, if_pos c]
    · rw [if_neg (fun g => c g.2), if_neg c]
  have eo : ∀ (k : Nat) (j : Int), k ≠ 97 → mI (uI u1 97 i 1) k j = mI u1 k j := fun k j hk => by rw [mI_uI, if_neg (fun g => hk g.1)]
  have R2 : RM (uI u1 97 i 1) N (pStep0 (setS S i)) := by
    obtain ⟨⟨m1, m2⟩, q1, q2, q3, q4, q5⟩ := R1
    have es : pStep0 (setS S i) = (S.1, S.2.1, S.2.2.1, (pStep0 S).2.2.2.1, (setS S i).2.2.2.2) := rfl
    rw [es]
    refine ⟨by rw [eo 0 19 (by decide), eo 0 24 (by decide)]; exact ⟨m1, m2⟩, RMt_fr fs (by decide) q1, RMl_fr fs (by decide) (fun k a c => (hB.2.1.2 k a c).1) g2 (fun k _ _ => SlM_fr fs (by decide)) q2, RMb_fr fs (by decide) q3, RMk_fr fs (by decide) (by decide) hB1.2.2.2.1.1 hB1.2.2.2.1.2.2.1 hB1.2.2.2.1.2.2.2 g2 q4, ?_⟩
    obtain ⟨⟨p1, p2⟩, p3, p4⟩ := q5
    refine ⟨⟨by rw [eo 0 98 (by decide)]; exact p1, fun k a c => ?_⟩, by rw [eo 0 104 (by decide)]; exact p3, fun k a c => by rw [eo 101 k (by decide), eo 102 k (by decide), eo 103 k (by decide)]; exact p4 k a c⟩
    obtain ⟨c1, c2, c3, c4, c5, c6⟩ := p2 k a c
    show CfM _ k (if k = i then _ else _)
    by_cases ek : k = i
    · rw [if_pos ek]
      exact ⟨by rw [eo 91 k (by decide)]; exact c1, by rw [eo 92 k (by decide)]; exact c2, by rw [eo 93 k (by decide)]; exact c3, by rw [eo 96 k (by decide)]; exact c4, fun w => by rw [eo 94 k (by decide), eo 95 k (by decide)]; exact ⟨ContM_g g2 (c5 w).1, ContM_g g2 (c5 w).2⟩, by rw [e97, if_pos ek]⟩
    · rw [if_neg ek]
      exact ⟨by rw [eo 91 k (by decide)]; exact c1, by rw [eo 92 k (by decide)]; exact c2, by rw [eo 93 k (by decide)]; exact c3, by rw [eo 96 k (by decide)]; exact c4, fun w => by rw [eo 94 k (by decide), eo 95 k (by decide)]; exact ⟨ContM_g g2 (c5 w).1, ContM_g g2 (c5 w).2⟩, by rw [e97, if_neg ek]; exact c6⟩
  have bw := hB.2.2.2.1.1
  have mk2 : ShM (uI u1 97 i 1) kept S.2.2.2.1.1 := ShM_s bw g2 (SlM_fr fs (by decide)) mkept
  generalize uI u1 97 i 1 = v at fs fu2 z2 R2 mk2
  clear g2 e97 eo
  have hB2 : Bd (pStep0 (setS S i)) := Bd_step0 (S := setS S i) hB
  have pw : (pStep0 (setS S i)).2.2.2.1.1 = S.2.2.2.1.1 := pStep0_w (setS S i)
  have mw : ShM v 40 S.2.2.2.1.1 := by have q := R2.2.2.2.2.1.1; rw [pw] at q; exact q
  have cf : CfM v i (S.2.2.2.2.2.1 i) ∨ True := Or.inr trivial
  obtain ⟨c1, c2, c3, c4, c5, c6⟩ := R2.2.2.2.2.2.1.2 i e.1 e.2
  have ef : (pStep0 (setS S i)).2.2.2.2.2.1 i = ((S.2.2.2.2.2.1 i).1, (S.2.2.2.2.2.1 i).2.1, (S.2.2.2.2.2.1 i).2.2.1, 1) := by
    show (if i = i then _ else _) = _; rw [if_pos rfl]
  rw [ef] at c1 c2 c3 c4 c5 c6
  simp only at c1 c2 c3 c4 c5 c6
  have kdi := kd i e.1 e.2
  generalize hf : S.2.2.2.2.2.1 i = fc at h c1 c2 c3 c4 c5 kdi
  -- the end
  have fin : ∀ (y : Mu) (s' : Sh), s' = chS S.2.2.2.1.1 fc th → ShB s' → RM y N (setW (pStep0 (setS S i)) s') → FrM wCh u y → (mI y 0 0 = 0 ∧ mI y 0 65 = 0) → F_X12_choose_183 y P := fun y s' hs' bs' Ry fy zy => by
    unfold F_X12_choose_183
    refine i_unsettled (Bd_setW hB2 bs') Ry.2.2.2.2.2 ?_
    have eu : pUns (setW (pStep0 (setS S i)) s') = pUns (setS S i) := rfl
    rw [eu]
    rw [hs'] at Ry
    exact h y Ry fy ⟨zy.1, Or.inl zy.2⟩
  have same : chS S.2.2.2.1.1 fc th = S.2.2.2.1.1 → F_X12_choose_183 v P := fun ec => fin v S.2.2.2.1.1 ec.symm bw (by
    have e0 : setW (pStep0 (setS S i)) S.2.2.2.1.1 = pStep0 (setS S i) := by rw [← pw]; exact setW_self _
    rw [e0]; exact R2) fu2 z2
  refine ⟨e.1, by omega, e.1, by omega, i_placeS bw mw (by decide) (by decide) ⟨e.1, by omega, i_placeS bw mw (by decide) (by decide) ?_⟩⟩
  rw [c1, c2, c3]
  have m1 := plS_m S.2.2.2.1.1 0 fc.1.2.1
  have m2 := plS_m S.2.2.2.1.1 1 fc.1.2.2.1
  have pb1 := plS_b S.2.2.2.1.1 0 fc.1.2.1
  have pb2 := plS_b S.2.2.2.1.1 1 fc.1.2.2.1
  have l0 := (lnS_b bw 0).2
  have l1 := (lnS_b bw 1).2
  have ms0 : mst 0 = 32 := rfl
  have ms1 : mst 1 = 10 := rfl
  by_cases e3 : fc.1.1 = 3
  · rw [if_pos e3]
    by_cases q1 : plS S.2.2.2.1.1 0 fc.1.2.1 < 0
    · rw [if_pos q1]; exact same (by unfold chS; rw [if_pos e3, if_neg (fun g => by have := g.1; omega)])
    rw [if_neg q1]
    by_cases q2 : plS S.2.2.2.1.1 1 fc.1.2.2.1 < 0
    · rw [if_pos q2]; exact same (by unfold chS; rw [if_pos e3, if_neg (fun g => by have := g.2; omega)])
    rw [if_neg q2]
    obtain ⟨d4, d5⟩ := c5 e3
    have put : ∀ q t, ContM v q t → t = (if th = 0 then fc.2.1 else fc.2.2.1) → F_X12_choose_119 (w32 (plS S.2.2.2.1.1 0 fc.1.2.1 + 1)) (w32 (plS S.2.2.2.1.1 1 fc.1.2.2.1 + 1)) q v P := fun q t hq' ht' => by
      unfold F_X12_choose_119
      rw [w32e (by omega) (by omega), w32e (by omega) (by omega)]
      refine i_setCell (by omega) (by omega) (by omega) (by omega) ?_
      rw [Int.add_sub_cancel, Int.add_sub_cancel]
      have R3 := RM_cell (r := plS S.2.2.2.1.1 0 fc.1.2.1) (c := plS S.2.2.2.1.1 1 fc.1.2.2.1) hB2 R2 (by omega) (by omega) hq'
      rw [pw] at R3
      refine fin _ _ ?_ (by exact bw) R3 (FrM_uI fu2 (wHas_a (by decide))) ⟨by rw [mI_uI, if_neg (by omega)]; exact z2.1, by rw [mI_uI, if_neg (by omega)]; exact z2.2⟩
      unfold chS
      rw [if_pos e3, if_pos ⟨by omega, by omega⟩, ht']
    by_cases et : th = 0
    · rw [if_pos et]; exact ⟨e.1, by omega, put _ _ d4 (by rw [if_pos et])⟩
    · rw [if_neg et]; exact ⟨e.1, by omega, put _ _ d5 (by rw [if_neg et])⟩
  · rw [if_neg e3]
    refine ⟨e.1, by omega, ?_⟩
    rw [c4]
    by_cases eg : th = fc.1.2.2.2
    · rw [if_pos eg, w32e (x := fc.1.1 - 1) (by omega) (by omega)]
      have main : ∀ ax at_, ax = fc.1.1 - 1 → at_ = plS S.2.2.2.1.1 ax (if fc.1.1 = 1 then fc.1.2.1 else fc.1.2.2.1) → F_X12_choose_153 kept ax at_ v P := fun ax at_ hax hat => by
        have hax' : ax = 0 ∨ ax = 1 := by omega
        have lb := lnS_b bw ax
        have mb := mst_32 ax
        have pb := plS_b S.2.2.2.1.1 ax (if fc.1.1 = 1 then fc.1.2.1 else fc.1.2.2.1)
        unfold F_X12_choose_153
        by_cases ea : at_ < 0
        · rw [if_pos ea]; exact same (by unfold chS; rw [if_neg e3, if_neg (fun g => by have := g.2.1; rw [← hax] at this; omega)])
        · rw [if_neg ea]
          refine i_linesOf (by decide) (by decide) ?_
          rw [ShM_ln mw ax]
          by_cases el : lnS S.2.2.2.1.1 ax ≤ 1
          · rw [if_pos el]; exact same (by unfold chS; rw [if_neg e3, if_neg (fun g => by have := g.2.2; rw [← hax] at this; omega)])
          · rw [if_neg el, w32e (by omega) (by omega)]
            refine i_goLine (T := pStep0 (setS S i)) hB2 (by rw [pw]; exact hD) R2 hax' hkept (by rw [pw]; exact mk2) (by rw [pw]; omega) (by rw [pw]; omega) (fun y Ry fy zy => ?_)
            rw [pw] at Ry
            refine fin y _ ?_ ?_ Ry (FrM_tr fu2 (FrM_sub fy (by decide))) ⟨by rw [zy.1]; exact z2.1, by rw [zy.2]; exact z2.2⟩
            · unfold chS
              rw [if_neg e3, ← hax, if_pos ⟨eg, by omega, by omega⟩, ← hat]
            · unfold shA
              rcases hax' with ea' | ea'
              · rw [if_pos ea']
                subst ea'
                exact ⟨⟨by show 1 ≤ lnS S.2.2.2.1.1 0 - 1; omega, by show lnS S.2.2.2.1.1 0 - 1 ≤ 32; omega⟩, bw.2⟩
              · rw [if_neg (by omega)]
                subst ea'
                exact ⟨bw.1, by show 1 ≤ lnS S.2.2.2.1.1 1 - 1; omega, by show lnS S.2.2.2.1.1 1 - 1 ≤ 10; omega⟩
      by_cases e1' : fc.1.1 = 1
      · rw [if_pos (by omega)]
        exact main _ _ rfl (by rw [if_pos e1', e1']; rfl)
      · rw [if_neg (by omega)]
        exact main _ _ rfl (by rw [if_neg e1', show fc.1.1 - 1 = 1 by omega])
    · rw [if_neg eg]; exact same (by unfold chS; rw [if_neg e3, if_neg (fun g => eg g.1)])
