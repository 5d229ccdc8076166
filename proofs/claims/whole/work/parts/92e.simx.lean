/-! ===== the calls keep the relation: blame, diff, go, insert, commit ===== -/
theorem s_blame : Sm23 SRv := by
  intro p0 p1
  refine simX_of (fun n mc ms z u b I S hw R M V => ?_)
  obtain ⟨hB, B, A, wI, M', hM, hT⟩ := VV_f hw R M V
  obtain ⟨c1, c2, c3⟩ := VV_cs hB M
  have sm : (pBlame p0.toInt p1.toInt S).2.2 = S := by
    unfold pBlame
    repeat' split
    all_goals rfl
  have ht : (pBlame p0.toInt p1.toInt S).1 ≤ 1 := pBlame_t
  refine ⟨(pBlame p0.toInt p1.toInt S).1, (pBlame p0.toInt p1.toInt S).2.1, S, ptZ z b S, 6, 1, 6, 5, ⟨ht, by omega⟩, Ask_1 hw R M V V.2.1 stay_rf (by decide) (by decide), ⟨by decide, by decide⟩, ?_, fun hm g m => ?_⟩
  · have D := T_X11_blame (t0 := b 0) (R32_p p0) (R32_p p1) hw (o_blame (cc := 1) (s := 6) (P := fun x y => (pBlame p0.toInt p1.toInt S).1 = 0 ∧ x = (pBlame p0.toInt p1.toInt S).2.1 ∧ KC y b S (ptZ z b S)) (X := fun k y => (0 < (pBlame p0.toInt p1.toInt S).1 ∧ exs.getD k "" = ["java/lang/IndexOutOfBoundsException"].getD ((pBlame p0.toInt p1.toInt S).1 - 1) "") ∧ KC y b S (ptZ z b S)) wI R c1 c2 (Nat.le_refl _) (Nat.le_refl _) (fun e => ⟨⟨by omega, by rw [e]; rfl⟩, KC_z R V⟩) (fun e => ⟨e, rfl, KC_z R V⟩))
    simpa only [ii_p] using D
  · have D := T_X12_blame (R32_p p0) (R32_p p1) m (i_blame (P := fun x v => x = (pBlame p0.toInt p1.toInt S).2.1 ∧ mI v 0 0 = ((pBlame p0.toInt p1.toInt S).1 : Int) ∧ KM v n S) hB M' B (fun v Rv f e => ⟨rfl, e, KM_k V V.2.1 rfl rfl (by rw [sm] at Rv; exact Rv) f (by decide) (by decide)⟩))
    simpa only [ii_p] using D
theorem VV_sh {n mc ms : Nat} {z : Z} {b : Nat → Nat} {I : Nat → Prop} {u : Mu} {S : SS} (M : RM u (513 - ((n : Int) + 1)) S) (V : VV (n + 1) mc ms z b I u S) (v : Int) (hv : isShP v S) : CoS (shOf v S) ∧ DsS (shOf v S) := by
  have h1 := hv.1
  have h2 := hv.2
  unfold shOf
  by_cases c : v = -1
  · rw [if_pos c]; exact ⟨ShM_CoS M.2.2.2.2.1.1, (PV_Ds V.2.1).1⟩
  · rw [if_neg c]; exact ⟨ShM_CoS (M.2.2.1.2 v (by omega) h2).1, (PV_Ds V.2.1).2 v (by omega) h2⟩
theorem s_diff : Sm21 SRv := by
  intro p0 p1
  refine simX_of (fun n mc ms z u b I S hw R M V => ?_)
  obtain ⟨hB, B, A, wI, M', hM, hT⟩ := VV_f hw R M V
  have sm : Stay S (pDiff p0.toInt p1.toInt S).2.2 := pDiff_s
  have ht : (pDiff p0.toInt p1.toInt S).1 ≤ 1 := pDiff_t
  have h0 : (pDiff p0.toInt p1.toInt S).1 ≠ 0 → (pDiff p0.toInt p1.toInt S).2.2 = S := pDiff_0
  have pv : PV (pDiff p0.toInt p1.toInt S).2.2 := PV_diff V.2.1
  have eW : (pDiff p0.toInt p1.toInt S).2.2.2.2.2.1.1 = S.2.2.2.1.1 := by
    unfold pDiff
    repeat' split
    all_goals rfl
  refine ⟨(pDiff p0.toInt p1.toInt S).1, (pDiff p0.toInt p1.toInt S).2.1, (pDiff p0.toInt p1.toInt S).2.2, ptZ z b S, 6, 1, 6, 4, ⟨ht, by omega⟩, Ask_1 hw R M V pv sm (by decide) (by decide), ⟨by decide, by decide⟩, ?_, fun hm g m => ?_⟩
  · have D := T_X11_diff (t0 := b 0) (R32_p p0) (R32_p p1) hw (o_diff (cc := 1) (s := 6) (P := fun x y => (pDiff p0.toInt p1.toInt S).1 = 0 ∧ x = (pDiff p0.toInt p1.toInt S).2.1 ∧ KC y b (pDiff p0.toInt p1.toInt S).2.2 (ptZ z b S)) (X := fun k y => (0 < (pDiff p0.toInt p1.toInt S).1 ∧ exs.getD k "" = ["java/util/NoSuchElementException"].getD ((pDiff p0.toInt p1.toInt S).1 - 1) "") ∧ KC y b (pDiff p0.toInt p1.toInt S).2.2 (ptZ z b S)) (fun y f => WzI_fr R.2.1 f (WL_I R.2.1) wI) R (VV_sh M V _) (VV_sh M V _) (Nat.le_refl _) (Nat.le_refl _) (fun e => ⟨⟨by omega, by rw [e]; rfl⟩, by rw [h0 (by omega)]; exact KC_z R V⟩) (fun e y f Ry => ⟨e, rfl, KC_keep R V GrI_rf f Ry (by decide) (by decide) (by decide) sm.2.1 eW⟩))
    simpa only [ii_p] using D
  · have D := T_X12_diff (R32_p p0) (R32_p p1) m (i_diff (P := fun x v => x = (pDiff p0.toInt p1.toInt S).2.1 ∧ mI v 0 0 = ((pDiff p0.toInt p1.toInt S).1 : Int) ∧ KM v n (pDiff p0.toInt p1.toInt S).2.2) hB M' B (fun v Rv f e => ⟨rfl, e, KM_k V pv sm.2.1 eW Rv f (by decide) (by decide)⟩))
    simpa only [ii_p] using D
theorem pGo_f {x : Int} {S : SS} : Stay S (pGo x S).2.2 ∧ (pGo x S).1 ≤ 3 ∧ ((pGo x S).1 ≠ 0 → (pGo x S).2.2 = S) := by
  unfold pGo
  by_cases e : 0 ≤ x ∧ x ≤ 5
  · rw [if_pos e]
    by_cases e2 : S.2.2.1.1 x = -1
    · rw [if_pos e2]; exact ⟨stay_rf, (by show (2 : Nat) ≤ 3; decide), fun _ => rfl⟩
    · rw [if_neg e2]
      refine ci_p (R := fun r : Nat × Int × SS => Stay S r.2.2 ∧ r.1 ≤ 3 ∧ (r.1 ≠ 0 → r.2.2 = S)) (fun _ => ⟨⟨rfl, rfl, rfl, rfl⟩, Nat.zero_le _, fun h => absurd rfl h⟩) (fun _ => ⟨stay_rf, Nat.le_refl _, fun _ => rfl⟩)
  · rw [if_neg e]; exact ⟨stay_rf, (by show (1 : Nat) ≤ 3; decide), fun _ => rfl⟩
theorem s_go : Sm14 SRv := by
  intro p0
  refine simX_of (fun n mc ms z u b I S hw R M V => ?_)
  obtain ⟨hB, B, A, wI, M', hM, hT⟩ := VV_f hw R M V
  obtain ⟨c1, c2, c3⟩ := VV_cs hB M
  obtain ⟨sm, ht, h0⟩ := pGo_f (x := p0.toInt) (S := S)
  have pv : PV (pGo p0.toInt S).2.2 := PV_go hB V.2.1
  have kz : (pGo p0.toInt S).1 ≠ 0 → KC z b (pGo p0.toInt S).2.2 (ptZ z b S) := fun e => by rw [h0 e]; exact KC_z R V
  refine ⟨(pGo p0.toInt S).1, (pGo p0.toInt S).2.1, (pGo p0.toInt S).2.2, ptZ z b S, 7, 2, 324, 5, ⟨ht, by omega⟩, Ask_1 hw R M V pv sm (by decide) (by decide), ⟨by decide, by decide⟩, ?_, fun hm g m => ?_⟩
  · have D := T_X11_go (t0 := b 0) (R32_p p0) hw (o_go (c := 2) (s := 324) (P := fun x y => (pGo p0.toInt S).1 = 0 ∧ x = (pGo p0.toInt S).2.1 ∧ KC y b (pGo p0.toInt S).2.2 (ptZ z b S)) (X := fun k y => (0 < (pGo p0.toInt S).1 ∧ exs.getD k "" = ["java/lang/IndexOutOfBoundsException", "java/util/NoSuchElementException", "java/lang/IllegalStateException"].getD ((pGo p0.toInt S).1 - 1) "") ∧ KC y b (pGo p0.toInt S).2.2 (ptZ z b S)) wI R c1 c3 (Nat.le_refl _) (Nat.le_refl _) (fun e => ⟨⟨by omega, by rw [e]; rfl⟩, kz (by omega)⟩) (fun e => ⟨⟨by omega, by rw [e]; rfl⟩, kz (by omega)⟩) (fun e => ⟨⟨by omega, by rw [e]; rfl⟩, kz (by omega)⟩) (fun e y J g f Ry wn => ⟨e, rfl, KC_show R V g f Ry (WkN_S wn) (by decide) (by decide) sm.2.1⟩))
    simpa only [ii_p] using D
  · have D := T_X12_go (R32_p p0) m (i_go (P := fun x v => x = (pGo p0.toInt S).2.1 ∧ mI v 0 0 = ((pGo p0.toInt S).1 : Int) ∧ KM v n (pGo p0.toInt S).2.2) hB M' B (fun v Rv f e => ⟨rfl, e.1, KM_c V pv sm.2.1 Rv f e.2 (by decide)⟩))
    simpa only [ii_p] using D
theorem pInsert_f {ax p : Int} {S : SS} : ((pInsert ax p S).2.2.1 = S.1 ∧ (pInsert ax p S).2.2.2.1 = S.2.1 ∧ (pInsert ax p S).2.2.2.2.1.2.2.2.1 = S.2.2.1.2.2.2.1 ∧ ∀ a, nxt (pInsert ax p S).2.2 a ≤ nxt S a + 1) ∧ (pInsert ax p S).1 ≤ 3 ∧ ((pInsert ax p S).1 ≠ 0 → (pInsert ax p S).2.2 = S) := by
  unfold pInsert
  by_cases e : ax = 0 ∨ ax = 1
  · rw [if_pos e]
    by_cases e1 : 1 ≤ p ∧ p ≤ lnS S.2.2.2.1.1 ax + 1
    · rw [if_pos e1]
      by_cases e2 : lnS S.2.2.2.1.1 ax < mst ax
      · rw [if_pos e2]
        refine ⟨⟨rfl, rfl, rfl, fun a => ?_⟩, Nat.zero_le _, fun h => absurd rfl h⟩
        show nxt (bmp S ax) a ≤ nxt S a + 1
        unfold nxt bmp
        dsimp only
        split <;> split <;> omega
      · rw [if_neg e2]; exact ⟨⟨rfl, rfl, rfl, fun a => by show nxt S a ≤ _; omega⟩, Nat.le_refl _, fun _ => rfl⟩
    · rw [if_neg e1]; exact ⟨⟨rfl, rfl, rfl, fun a => by show nxt S a ≤ _; omega⟩, (by show (2 : Nat) ≤ 3; decide), fun _ => rfl⟩
  · rw [if_neg e]; exact ⟨⟨rfl, rfl, rfl, fun a => by show nxt S a ≤ _; omega⟩, (by show (1 : Nat) ≤ 3; decide), fun _ => rfl⟩
theorem s_insert : Sm5 SRv := by
  intro p0 p1
  refine simX_of (fun n mc ms z u b I S hw R M V => ?_)
  obtain ⟨hB, B, A, wI, M', hM, hT⟩ := VV_f hw R M V
  obtain ⟨⟨s1, s2, s3, s4⟩, ht, h0⟩ := pInsert_f (ax := p0.toInt) (p := p1.toInt) (S := S)
  have pv : PV (pInsert p0.toInt p1.toInt S).2.2 := PV_insert hB V.2.1
  have nx := V.2.2.1
  have n0 : nxt S 0 = S.2.2.1.2.2.2.2.2.1 := rfl
  have n1 : nxt S 1 = S.2.2.1.2.2.2.2.2.2 := rfl
  have nn := V.2.1.2.2.2.2.2
  obtain ⟨x1, x2⟩ := nx
  have kz : (pInsert p0.toInt p1.toInt S).1 ≠ 0 → KC z b (pInsert p0.toInt p1.toInt S).2.2 (ptZ z b S) := fun e => by rw [h0 e]; exact KC_z R V
  have hL : ∀ i, 0 ≤ i → i < lnS S.2.2.2.1.1 p0.toInt → idS S.2.2.2.1.1 p0.toInt i ≠ nxt S p0.toInt := by
    intro i i0 i1 e
    by_cases c : p0.toInt = 0
    · rw [c] at i1 e
      have := (V.2.1.2.1.2.2 0 (Or.inl rfl) i i0 i1).2
      omega
    · have l1 : lnS S.2.2.2.1.1 p0.toInt = lnS S.2.2.2.1.1 1 := by unfold lnS; rw [if_neg c, if_neg (by decide)]
      have l2 : idS S.2.2.2.1.1 p0.toInt = idS S.2.2.2.1.1 1 := by unfold idS; rw [if_neg c, if_neg (by decide)]
      have l3 : nxt S p0.toInt = nxt S 1 := by unfold nxt; rw [if_neg c, if_neg (by decide)]
      rw [l1] at i1
      rw [l2, l3] at e
      have := (V.2.1.2.1.2.2 1 (Or.inr rfl) i i0 i1).2
      omega
  obtain ⟨r1, r2⟩ := Rm_1 (S' := (pInsert p0.toInt p1.toInt S).2.2) (c := 3) (s := 388) V.2.2.2.2.2 (by decide) (by decide) (by rw [s1]; exact hT.1) (by rw [s1]; exact Int.le_refl _) (by rw [s3]; exact hM.2) (by rw [s3]; exact Int.le_refl _)
  refine ⟨(pInsert p0.toInt p1.toInt S).1, (pInsert p0.toInt p1.toInt S).2.1, (pInsert p0.toInt p1.toInt S).2.2, ptZ z b S, 6, 3, 388, 3, ⟨ht, by omega⟩, ⟨pv, ⟨by have := s4 0; omega, by have := s4 1; omega⟩, r1, r2⟩, ⟨by decide, by decide⟩, ?_, fun hm g m => ?_⟩
  · have D := T_X11_insert (t0 := b 0) (R32_p p0) (R32_p p1) hw (o_insert (cc := 3) (ss := 388) (P := fun x y => (pInsert p0.toInt p1.toInt S).1 = 0 ∧ x = (pInsert p0.toInt p1.toInt S).2.1 ∧ KC y b (pInsert p0.toInt p1.toInt S).2.2 (ptZ z b S)) (X := fun k y => (0 < (pInsert p0.toInt p1.toInt S).1 ∧ exs.getD k "" = ["java/lang/IllegalArgumentException", "java/lang/IndexOutOfBoundsException", "java/lang/IllegalStateException"].getD ((pInsert p0.toInt p1.toInt S).1 - 1) "") ∧ KC y b (pInsert p0.toInt p1.toInt S).2.2 (ptZ z b S)) R ⟨by omega, by omega⟩ (Nat.le_refl _) (Nat.le_refl _) (fun e => ⟨⟨by omega, by rw [e]; rfl⟩, kz (by omega)⟩) (fun e => ⟨⟨by omega, by rw [e]; rfl⟩, kz (by omega)⟩) (fun e => ⟨⟨by omega, by rw [e]; rfl⟩, kz (by omega)⟩) (fun e y J g f Ry wn => ⟨e, rfl, KC_show R V g f Ry (WkN_S wn) (by decide) (by decide) s2⟩))
    simpa only [ii_p] using D
  · have D := T_X12_insert (R32_p p0) (R32_p p1) m (i_insert (P := fun x v => x = (pInsert p0.toInt p1.toInt S).2.1 ∧ mI v 0 0 = ((pInsert p0.toInt p1.toInt S).1 : Int) ∧ KM v n (pInsert p0.toInt p1.toInt S).2.2) hB (PV_Ds V.2.1).1 hL ⟨⟨by omega, by omega⟩, by omega, by omega⟩ M' (fun v Rv f e => ⟨rfl, e.1, KM_c V pv s2 Rv f e.2 (by decide)⟩))
    simpa only [ii_p] using D
