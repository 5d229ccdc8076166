/-! ===== the calls keep the relation: regular ones, laid by gensm2.py ===== -/
theorem s_erase : Sm4 SRv := by
  intro p0 p1 p2 p3
  refine simX_of (fun n mc ms z u b I S hw R M V => ?_)
  obtain ⟨hB, B, A, wI, M', hM, hT⟩ := VV_f hw R M V
  have sm : Stay S (pErase p0.toInt p1.toInt p2.toInt p3.toInt S).2.2 := pErase_s
  have ht : (pErase p0.toInt p1.toInt p2.toInt p3.toInt S).1 ≤ 2 := pErase_t
  have h0 : (pErase p0.toInt p1.toInt p2.toInt p3.toInt S).1 ≠ 0 → (pErase p0.toInt p1.toInt p2.toInt p3.toInt S).2.2 = S := pErase_0
  have pv : PV (pErase p0.toInt p1.toInt p2.toInt p3.toInt S).2.2 := PV_erase V.2.1
  have kz : (pErase p0.toInt p1.toInt p2.toInt p3.toInt S).1 ≠ 0 → KC z b (pErase p0.toInt p1.toInt p2.toInt p3.toInt S).2.2 (ptZ z b S) := fun e => by rw [h0 e]; exact KC_z R V
  refine ⟨(pErase p0.toInt p1.toInt p2.toInt p3.toInt S).1, (pErase p0.toInt p1.toInt p2.toInt p3.toInt S).2.1, (pErase p0.toInt p1.toInt p2.toInt p3.toInt S).2.2, ptZ z b S, 6, 2, 324, 3, ⟨ht, by omega⟩, Ask_1 hw R M V pv sm (by decide) (by decide), ⟨by decide, by decide⟩, ?_, fun hm g m => ?_⟩
  · have D := T_X11_erase (t0 := b 0) (R32_p p0) (R32_p p1) (R32_p p2) (R32_p p3) hw (o_erase (cc := 2) (ss := 324) (P := fun x y => (pErase p0.toInt p1.toInt p2.toInt p3.toInt S).1 = 0 ∧ x = (pErase p0.toInt p1.toInt p2.toInt p3.toInt S).2.1 ∧ KC y b (pErase p0.toInt p1.toInt p2.toInt p3.toInt S).2.2 (ptZ z b S)) (X := fun k y => (0 < (pErase p0.toInt p1.toInt p2.toInt p3.toInt S).1 ∧ exs.getD k "" = ["java/lang/IndexOutOfBoundsException", "java/lang/IllegalArgumentException"].getD ((pErase p0.toInt p1.toInt p2.toInt p3.toInt S).1 - 1) "") ∧ KC y b (pErase p0.toInt p1.toInt p2.toInt p3.toInt S).2.2 (ptZ z b S)) R (Nat.le_refl _) (Nat.le_refl _) (fun e => ⟨⟨by omega, by rw [e]; rfl⟩, kz (by omega)⟩) (fun e => ⟨⟨by omega, by rw [e]; rfl⟩, kz (by omega)⟩) (fun e y J g f Ry wn => ⟨e, rfl, KC_show R V g f Ry (WkN_S wn) (by decide) (by decide) sm.2.1⟩))
    simpa only [ii_p] using D
  · have D := T_X12_erase (R32_p p0) (R32_p p1) (R32_p p2) (R32_p p3) m (i_erase (P := fun x v => x = (pErase p0.toInt p1.toInt p2.toInt p3.toInt S).2.1 ∧ mI v 0 0 = ((pErase p0.toInt p1.toInt p2.toInt p3.toInt S).1 : Int) ∧ KM v n (pErase p0.toInt p1.toInt p2.toInt p3.toInt S).2.2) hB M' (fun v Rv f e => ⟨rfl, e.1, KM_c V pv sm.2.1 Rv f e.2 (by decide)⟩))
    simpa only [ii_p] using D
theorem s_remove : Sm6 SRv := by
  intro p0 p1
  refine simX_of (fun n mc ms z u b I S hw R M V => ?_)
  obtain ⟨hB, B, A, wI, M', hM, hT⟩ := VV_f hw R M V
  have sm : Stay S (pRemove p0.toInt p1.toInt S).2.2 := pRemove_s
  have ht : (pRemove p0.toInt p1.toInt S).1 ≤ 3 := pRemove_t
  have h0 : (pRemove p0.toInt p1.toInt S).1 ≠ 0 → (pRemove p0.toInt p1.toInt S).2.2 = S := pRemove_0
  have pv : PV (pRemove p0.toInt p1.toInt S).2.2 := PV_remove hB V.2.1
  have kz : (pRemove p0.toInt p1.toInt S).1 ≠ 0 → KC z b (pRemove p0.toInt p1.toInt S).2.2 (ptZ z b S) := fun e => by rw [h0 e]; exact KC_z R V
  refine ⟨(pRemove p0.toInt p1.toInt S).1, (pRemove p0.toInt p1.toInt S).2.1, (pRemove p0.toInt p1.toInt S).2.2, ptZ z b S, 6, 3, 388, 4, ⟨ht, by omega⟩, Ask_1 hw R M V pv sm (by decide) (by decide), ⟨by decide, by decide⟩, ?_, fun hm g m => ?_⟩
  · have D := T_X11_remove (t0 := b 0) (R32_p p0) (R32_p p1) hw (o_remove (cc := 3) (ss := 388) (P := fun x y => (pRemove p0.toInt p1.toInt S).1 = 0 ∧ x = (pRemove p0.toInt p1.toInt S).2.1 ∧ KC y b (pRemove p0.toInt p1.toInt S).2.2 (ptZ z b S)) (X := fun k y => (0 < (pRemove p0.toInt p1.toInt S).1 ∧ exs.getD k "" = ["java/lang/IllegalArgumentException", "java/lang/IndexOutOfBoundsException", "java/lang/IllegalStateException"].getD ((pRemove p0.toInt p1.toInt S).1 - 1) "") ∧ KC y b (pRemove p0.toInt p1.toInt S).2.2 (ptZ z b S)) R (Nat.le_refl _) (Nat.le_refl _) (fun e => ⟨⟨by omega, by rw [e]; rfl⟩, kz (by omega)⟩) (fun e => ⟨⟨by omega, by rw [e]; rfl⟩, kz (by omega)⟩) (fun e => ⟨⟨by omega, by rw [e]; rfl⟩, kz (by omega)⟩) (fun e y J g f Ry wn => ⟨e, rfl, KC_show R V g f Ry (WkN_S wn) (by decide) (by decide) sm.2.1⟩))
    simpa only [ii_p] using D
  · have D := T_X12_remove (R32_p p0) (R32_p p1) m (i_remove (P := fun x v => x = (pRemove p0.toInt p1.toInt S).2.1 ∧ mI v 0 0 = ((pRemove p0.toInt p1.toInt S).1 : Int) ∧ KM v n (pRemove p0.toInt p1.toInt S).2.2) hB (PV_Ds V.2.1).1 M' (fun v Rv f e => ⟨rfl, e.1, KM_c V pv sm.2.1 Rv f e.2 (by decide)⟩))
    simpa only [ii_p] using D
theorem s_move : Sm7 SRv := by
  intro p0 p1 p2
  refine simX_of (fun n mc ms z u b I S hw R M V => ?_)
  obtain ⟨hB, B, A, wI, M', hM, hT⟩ := VV_f hw R M V
  have sm : Stay S (pMove p0.toInt p1.toInt p2.toInt S).2.2 := pMove_s
  have ht : (pMove p0.toInt p1.toInt p2.toInt S).1 ≤ 2 := pMove_t
  have h0 : (pMove p0.toInt p1.toInt p2.toInt S).1 ≠ 0 → (pMove p0.toInt p1.toInt p2.toInt S).2.2 = S := pMove_0
  have pv : PV (pMove p0.toInt p1.toInt p2.toInt S).2.2 := PV_move hB V.2.1
  have kz : (pMove p0.toInt p1.toInt p2.toInt S).1 ≠ 0 → KC z b (pMove p0.toInt p1.toInt p2.toInt S).2.2 (ptZ z b S) := fun e => by rw [h0 e]; exact KC_z R V
  refine ⟨(pMove p0.toInt p1.toInt p2.toInt S).1, (pMove p0.toInt p1.toInt p2.toInt S).2.1, (pMove p0.toInt p1.toInt p2.toInt S).2.2, ptZ z b S, 6, 4, 452, 3, ⟨ht, by omega⟩, Ask_1 hw R M V pv sm (by decide) (by decide), ⟨by decide, by decide⟩, ?_, fun hm g m => ?_⟩
  · have D := T_X11_move (t0 := b 0) (R32_p p0) (R32_p p1) (R32_p p2) hw (o_move (cc := 4) (ss := 452) (P := fun x y => (pMove p0.toInt p1.toInt p2.toInt S).1 = 0 ∧ x = (pMove p0.toInt p1.toInt p2.toInt S).2.1 ∧ KC y b (pMove p0.toInt p1.toInt p2.toInt S).2.2 (ptZ z b S)) (X := fun k y => (0 < (pMove p0.toInt p1.toInt p2.toInt S).1 ∧ exs.getD k "" = ["java/lang/IllegalArgumentException", "java/lang/IndexOutOfBoundsException"].getD ((pMove p0.toInt p1.toInt p2.toInt S).1 - 1) "") ∧ KC y b (pMove p0.toInt p1.toInt p2.toInt S).2.2 (ptZ z b S)) R (Nat.le_refl _) (Nat.le_refl _) (fun e => ⟨⟨by omega, by rw [e]; rfl⟩, kz (by omega)⟩) (fun e => ⟨⟨by omega, by rw [e]; rfl⟩, kz (by omega)⟩) (fun e y J g f Ry wn => ⟨e, rfl, KC_show R V g f Ry (WkN_S wn) (by decide) (by decide) sm.2.1⟩))
    simpa only [ii_p] using D
  · have D := T_X12_move (R32_p p0) (R32_p p1) (R32_p p2) m (i_move (P := fun x v => x = (pMove p0.toInt p1.toInt p2.toInt S).2.1 ∧ mI v 0 0 = ((pMove p0.toInt p1.toInt p2.toInt S).1 : Int) ∧ KM v n (pMove p0.toInt p1.toInt p2.toInt S).2.2) hB (PV_Ds V.2.1).1 M' (fun v Rv f e => ⟨rfl, e.1, KM_c V pv sm.2.1 Rv f e.2 (by decide)⟩))
    simpa only [ii_p] using D
theorem s_undo : Sm10 SRv := by
  refine simX_of (fun n mc ms z u b I S hw R M V => ?_)
  obtain ⟨hB, B, A, wI, M', hM, hT⟩ := VV_f hw R M V
  have sm : Stay S (pUndo S).2.2 := pUndo_s
  have ht : (pUndo S).1 ≤ 1 := pUndo_t
  have h0 : (pUndo S).1 ≠ 0 → (pUndo S).2.2 = S := pUndo_0
  have pv : PV (pUndo S).2.2 := PV_undo hB V.2.1
  have kz : (pUndo S).1 ≠ 0 → KC z b (pUndo S).2.2 (ptZ z b S) := fun e => by rw [h0 e]; exact KC_z R V
  refine ⟨(pUndo S).1, (pUndo S).2.1, (pUndo S).2.2, ptZ z b S, 6, 1, 6, 2, ⟨ht, by omega⟩, Ask_1 hw R M V pv sm (by decide) (by decide), ⟨by decide, by decide⟩, ?_, fun hm g m => ?_⟩
  · have D := T_X11_undo (t0 := b 0)  hw (o_undo (c := 1) (s := 6) (P := fun x y => (pUndo S).1 = 0 ∧ x = (pUndo S).2.1 ∧ KC y b (pUndo S).2.2 (ptZ z b S)) (X := fun k y => (0 < (pUndo S).1 ∧ exs.getD k "" = ["java/util/NoSuchElementException"].getD ((pUndo S).1 - 1) "") ∧ KC y b (pUndo S).2.2 (ptZ z b S)) R (Nat.le_refl _) (Nat.le_refl _) (fun e => ⟨⟨by omega, by rw [e]; rfl⟩, kz (by omega)⟩) (fun e y f Ry ws => ⟨e, rfl, KC_show R V GrI_rf f Ry (WkS_0 ws) (by decide) (by decide) sm.2.1⟩))
    simpa only [ii_p] using D
  · have D := T_X12_undo  m (i_undo (P := fun x v => x = (pUndo S).2.1 ∧ mI v 0 0 = ((pUndo S).1 : Int) ∧ KM v n (pUndo S).2.2) hB M' (fun v Rv f e => ⟨rfl, e.1, KM_c V pv sm.2.1 Rv f e.2 (by decide)⟩))
    simpa only [ii_p] using D
theorem s_redo : Sm11 SRv := by
  refine simX_of (fun n mc ms z u b I S hw R M V => ?_)
  obtain ⟨hB, B, A, wI, M', hM, hT⟩ := VV_f hw R M V
  have sm : Stay S (pRedo S).2.2 := pRedo_s
  have ht : (pRedo S).1 ≤ 1 := pRedo_t
  have h0 : (pRedo S).1 ≠ 0 → (pRedo S).2.2 = S := pRedo_0
  have pv : PV (pRedo S).2.2 := PV_redo hB V.2.1
  have kz : (pRedo S).1 ≠ 0 → KC z b (pRedo S).2.2 (ptZ z b S) := fun e => by rw [h0 e]; exact KC_z R V
  refine ⟨(pRedo S).1, (pRedo S).2.1, (pRedo S).2.2, ptZ z b S, 6, 1, 6, 2, ⟨ht, by omega⟩, Ask_1 hw R M V pv sm (by decide) (by decide), ⟨by decide, by decide⟩, ?_, fun hm g m => ?_⟩
  · have D := T_X11_redo (t0 := b 0)  hw (o_redo (c := 1) (s := 6) (P := fun x y => (pRedo S).1 = 0 ∧ x = (pRedo S).2.1 ∧ KC y b (pRedo S).2.2 (ptZ z b S)) (X := fun k y => (0 < (pRedo S).1 ∧ exs.getD k "" = ["java/util/NoSuchElementException"].getD ((pRedo S).1 - 1) "") ∧ KC y b (pRedo S).2.2 (ptZ z b S)) R (Nat.le_refl _) (Nat.le_refl _) (fun e => ⟨⟨by omega, by rw [e]; rfl⟩, kz (by omega)⟩) (fun e y f Ry ws => ⟨e, rfl, KC_show R V GrI_rf f Ry (WkS_0 ws) (by decide) (by decide) sm.2.1⟩))
    simpa only [ii_p] using D
  · have D := T_X12_redo  m (i_redo (P := fun x v => x = (pRedo S).2.1 ∧ mI v 0 0 = ((pRedo S).1 : Int) ∧ KM v n (pRedo S).2.2) hB M' (fun v Rv f e => ⟨rfl, e.1, KM_c V pv sm.2.1 Rv f e.2 (by decide)⟩))
    simpa only [ii_p] using D
theorem s_branch : Sm13 SRv := by
  intro p0
  refine simX_of (fun n mc ms z u b I S hw R M V => ?_)
  obtain ⟨hB, B, A, wI, M', hM, hT⟩ := VV_f hw R M V
  have sm : Stay S (pBranch p0.toInt S).2.2 := pBranch_s
  have ht : (pBranch p0.toInt S).1 ≤ 2 := pBranch_t
  have h0 : (pBranch p0.toInt S).1 ≠ 0 → (pBranch p0.toInt S).2.2 = S := pBranch_0
  have pv : PV (pBranch p0.toInt S).2.2 := PV_branch V.2.1
  have kz : (pBranch p0.toInt S).1 ≠ 0 → KC z b (pBranch p0.toInt S).2.2 (ptZ z b S) := fun e => by rw [h0 e]; exact KC_z R V
  have eW : (pBranch p0.toInt S).2.2.2.2.2.1.1 = S.2.2.2.1.1 := by
    unfold pBranch
    repeat' split
    all_goals rfl
  refine ⟨(pBranch p0.toInt S).1, (pBranch p0.toInt S).2.1, (pBranch p0.toInt S).2.2, ptZ z b S, 6, 1, 6, 2, ⟨ht, by omega⟩, Ask_1 hw R M V pv sm (by decide) (by decide), ⟨by decide, by decide⟩, ?_, fun hm g m => ?_⟩
  · have D := T_X11_branch (t0 := b 0) (R32_p p0) hw (o_branch (c := 1) (s := 6) (P := fun x y => (pBranch p0.toInt S).1 = 0 ∧ x = (pBranch p0.toInt S).2.1 ∧ KC y b (pBranch p0.toInt S).2.2 (ptZ z b S)) (X := fun k y => (0 < (pBranch p0.toInt S).1 ∧ exs.getD k "" = ["java/lang/IndexOutOfBoundsException", "java/lang/IllegalStateException"].getD ((pBranch p0.toInt S).1 - 1) "") ∧ KC y b (pBranch p0.toInt S).2.2 (ptZ z b S)) R (Nat.le_refl _) (Nat.le_refl _) (fun e => ⟨⟨by omega, by rw [e]; rfl⟩, kz (by omega)⟩) (fun e => ⟨⟨by omega, by rw [e]; rfl⟩, kz (by omega)⟩) (fun e y f Ry => ⟨e, rfl, KC_keep R V GrI_rf f Ry (by decide) (by decide) (by decide) sm.2.1 eW⟩))
    simpa only [ii_p] using D
  · have D := T_X12_branch (R32_p p0) m (i_branch (P := fun x v => x = (pBranch p0.toInt S).2.1 ∧ mI v 0 0 = ((pBranch p0.toInt S).1 : Int) ∧ KM v n (pBranch p0.toInt S).2.2) hB M' (fun v Rv f e => ⟨rfl, e, KM_k V pv sm.2.1 eW Rv f (by decide) (by decide)⟩))
    simpa only [ii_p] using D
theorem s_merge : Sm16 SRv := by
  intro p0
  refine simX_of (fun n mc ms z u b I S hw R M V => ?_)
  obtain ⟨hB, B, A, wI, M', hM, hT⟩ := VV_f hw R M V
  have sm : Stay S (pMerge p0.toInt S).2.2 := pMerge_s
  have ht : (pMerge p0.toInt S).1 ≤ 4 := pMerge_t
  have h0 : (pMerge p0.toInt S).1 ≠ 0 → (pMerge p0.toInt S).2.2 = S := pMerge_0
  have pv : PV (pMerge p0.toInt S).2.2 := PV_merge hB V.2.1
  have kz : (pMerge p0.toInt S).1 ≠ 0 → KC z b (pMerge p0.toInt S).2.2 (ptZ z b S) := fun e => by rw [h0 e]; exact KC_z R V
  have jp : JnP S := ⟨⟨ShM_CoS M.2.2.2.2.1.1, (PV_Ds V.2.1).1⟩, fun k k0 k1 => ⟨ShM_CoS (M.2.2.1.2 k k0 k1).1, (PV_Ds V.2.1).2 k k0 k1⟩⟩
  have jn := R.2.2.2.2.1.2.2.2.2.1.2
  refine ⟨(pMerge p0.toInt S).1, (pMerge p0.toInt S).2.1, (pMerge p0.toInt S).2.2, ptZ z b S, 8, 401, 3006, 9, ⟨ht, by omega⟩, Ask_1 hw R M V pv sm (by decide) (by decide), ⟨by decide, by decide⟩, ?_, fun hm g m => ?_⟩
  · have D := T_X11_merge (t0 := b 0) (R32_p p0) hw (o_merge (c := 401) (s := 3006) (P := fun x y => (pMerge p0.toInt S).1 = 0 ∧ x = (pMerge p0.toInt S).2.1 ∧ KC y b (pMerge p0.toInt S).2.2 (ptZ z b S)) (X := fun k y => (0 < (pMerge p0.toInt S).1 ∧ exs.getD k "" = ["java/lang/IndexOutOfBoundsException", "java/util/NoSuchElementException", "java/lang/UnsupportedOperationException", "java/lang/IllegalStateException"].getD ((pMerge p0.toInt S).1 - 1) "") ∧ KC y b (pMerge p0.toInt S).2.2 (ptZ z b S)) wI R jp (Nat.le_refl _) (Nat.le_refl _) (fun e => ⟨⟨by omega, by rw [e]; rfl⟩, kz (by omega)⟩) (fun e => ⟨⟨by omega, by rw [e]; rfl⟩, kz (by omega)⟩) (fun e => ⟨⟨by omega, by rw [e]; rfl⟩, kz (by omega)⟩) (fun e y f Ry => ⟨⟨by omega, by rw [e]; rfl⟩, KC_keep R V GrI_rf f (by rw [h0 (by omega)]; exact Ry) (by decide) (by decide) (by decide) sm.2.1 (by rw [h0 (by omega)])⟩) (fun e y J g f Ry wn => ⟨e, rfl, (by
      rcases wn with ⟨e1, e2⟩ | wn
      · rw [e1, e2]; exact KC_z R V
      · exact KC_show R V g f Ry (WkN_S wn) (by decide) (by decide) sm.2.1)⟩))
    simpa only [ii_p] using D
  · have D := T_X12_merge (R32_p p0) m (i_merge (P := fun x v => x = (pMerge p0.toInt S).2.1 ∧ mI v 0 0 = ((pMerge p0.toInt S).1 : Int) ∧ KM v n (pMerge p0.toInt S).2.2) hB M' B jn (PV_Ds V.2.1).1 (PV_Ds V.2.1).2 (fun v Rv f e => ⟨rfl, e.1, KM_c V pv sm.2.1 Rv f e.2 (by decide)⟩))
    simpa only [ii_p] using D
theorem s_pick : Sm17 SRv := by
  intro p0
  refine simX_of (fun n mc ms z u b I S hw R M V => ?_)
  obtain ⟨hB, B, A, wI, M', hM, hT⟩ := VV_f hw R M V
  have sm : Stay S (pPick p0.toInt S).2.2 := pPick_s
  have ht : (pPick p0.toInt S).1 ≤ 3 := pPick_t
  have h0 : (pPick p0.toInt S).1 ≠ 0 → (pPick p0.toInt S).2.2 = S := pPick_0
  have pv : PV (pPick p0.toInt S).2.2 := PV_pick hB V.2.1
  have kz : (pPick p0.toInt S).1 ≠ 0 → KC z b (pPick p0.toInt S).2.2 (ptZ z b S) := fun e => by rw [h0 e]; exact KC_z R V
  have jp : JnP S := ⟨⟨ShM_CoS M.2.2.2.2.1.1, (PV_Ds V.2.1).1⟩, fun k k0 k1 => ⟨ShM_CoS (M.2.2.1.2 k k0 k1).1, (PV_Ds V.2.1).2 k k0 k1⟩⟩
  have jn := R.2.2.2.2.1.2.2.2.2.1.2
  refine ⟨(pPick p0.toInt S).1, (pPick p0.toInt S).2.1, (pPick p0.toInt S).2.2, ptZ z b S, 8, 401, 3006, 9, ⟨ht, by omega⟩, Ask_1 hw R M V pv sm (by decide) (by decide), ⟨by decide, by decide⟩, ?_, fun hm g m => ?_⟩
  · have D := T_X11_pick (t0 := b 0) (R32_p p0) hw (o_pick (c := 401) (s := 3006) (P := fun x y => (pPick p0.toInt S).1 = 0 ∧ x = (pPick p0.toInt S).2.1 ∧ KC y b (pPick p0.toInt S).2.2 (ptZ z b S)) (X := fun k y => (0 < (pPick p0.toInt S).1 ∧ exs.getD k "" = ["java/util/NoSuchElementException", "java/lang/UnsupportedOperationException", "java/lang/IllegalStateException"].getD ((pPick p0.toInt S).1 - 1) "") ∧ KC y b (pPick p0.toInt S).2.2 (ptZ z b S)) wI R jp (Nat.le_refl _) (Nat.le_refl _) (fun e => ⟨⟨by omega, by rw [e]; rfl⟩, kz (by omega)⟩) (fun e => ⟨⟨by omega, by rw [e]; rfl⟩, kz (by omega)⟩) (fun e y f Ry => ⟨⟨by omega, by rw [e]; rfl⟩, KC_keep R V GrI_rf f (by rw [h0 (by omega)]; exact Ry) (by decide) (by decide) (by decide) sm.2.1 (by rw [h0 (by omega)])⟩) (fun e y J g f Ry wn => ⟨e, rfl, (by
      rcases wn with ⟨e1, e2⟩ | wn
      · rw [e1, e2]; exact KC_z R V
      · exact KC_show R V g f Ry (WkN_S wn) (by decide) (by decide) sm.2.1)⟩))
    simpa only [ii_p] using D
  · have D := T_X12_pick (R32_p p0) m (i_pick (P := fun x v => x = (pPick p0.toInt S).2.1 ∧ mI v 0 0 = ((pPick p0.toInt S).1 : Int) ∧ KM v n (pPick p0.toInt S).2.2) hB M' B jn (PV_Ds V.2.1).1 (PV_Ds V.2.1).2 (fun v Rv f e => ⟨rfl, e.1, KM_c V pv sm.2.1 Rv f e.2 (by decide)⟩))
    simpa only [ii_p] using D
theorem s_choose : Sm19 SRv := by
  intro p0 p1
  refine simX_of (fun n mc ms z u b I S hw R M V => ?_)
  obtain ⟨hB, B, A, wI, M', hM, hT⟩ := VV_f hw R M V
  have sm : Stay S (pChoose p0.toInt ((b2 (p1 ≠ 0)).toInt) S).2.2 := pChoose_s
  have ht : (pChoose p0.toInt ((b2 (p1 ≠ 0)).toInt) S).1 ≤ 1 := pChoose_t
  have h0 : (pChoose p0.toInt ((b2 (p1 ≠ 0)).toInt) S).1 ≠ 0 → (pChoose p0.toInt ((b2 (p1 ≠ 0)).toInt) S).2.2 = S := pChoose_0
  have pv : PV (pChoose p0.toInt ((b2 (p1 ≠ 0)).toInt) S).2.2 := PV_choose hB V.2.1
  have kz : (pChoose p0.toInt ((b2 (p1 ≠ 0)).toInt) S).1 ≠ 0 → KC z b (pChoose p0.toInt ((b2 (p1 ≠ 0)).toInt) S).2.2 (ptZ z b S) := fun e => by rw [h0 e]; exact KC_z R V
  refine ⟨(pChoose p0.toInt ((b2 (p1 ≠ 0)).toInt) S).1, (pChoose p0.toInt ((b2 (p1 ≠ 0)).toInt) S).2.1, (pChoose p0.toInt ((b2 (p1 ≠ 0)).toInt) S).2.2, ptZ z b S, 7, 3, 388, 4, ⟨ht, by omega⟩, Ask_1 hw R M V pv sm (by decide) (by decide), ⟨by decide, by decide⟩, ?_, fun hm g m => ?_⟩
  · have D := T_X11_choose (t0 := b 0) (R32_p p0) (R32_p (b2 (p1 ≠ 0))) hw (o_choose (c := 3) (s := 388) (P := fun x y => (pChoose p0.toInt ((b2 (p1 ≠ 0)).toInt) S).1 = 0 ∧ x = (pChoose p0.toInt ((b2 (p1 ≠ 0)).toInt) S).2.1 ∧ KC y b (pChoose p0.toInt ((b2 (p1 ≠ 0)).toInt) S).2.2 (ptZ z b S)) (X := fun k y => (0 < (pChoose p0.toInt ((b2 (p1 ≠ 0)).toInt) S).1 ∧ exs.getD k "" = ["java/lang/IndexOutOfBoundsException"].getD ((pChoose p0.toInt ((b2 (p1 ≠ 0)).toInt) S).1 - 1) "") ∧ KC y b (pChoose p0.toInt ((b2 (p1 ≠ 0)).toInt) S).2.2 (ptZ z b S)) R (PV_Kd V.2.1) (Nat.le_refl _) (Nat.le_refl _) (fun e => ⟨⟨by omega, by rw [e]; rfl⟩, kz (by omega)⟩) (fun e y J g f Ry wn => ⟨e, rfl, (by
      obtain ⟨ca, -, f⟩ := f
      exact KC_show R V g f Ry (WkN_S wn) (by decide) (by decide) sm.2.1)⟩))
    simpa only [ii_p] using D
  · have D := T_X12_choose (R32_p p0) (R32_p (b2 (p1 ≠ 0))) m (i_choose (P := fun x v => x = (pChoose p0.toInt ((b2 (p1 ≠ 0)).toInt) S).2.1 ∧ mI v 0 0 = ((pChoose p0.toInt ((b2 (p1 ≠ 0)).toInt) S).1 : Int) ∧ KM v n (pChoose p0.toInt ((b2 (p1 ≠ 0)).toInt) S).2.2) hB (PV_Ds V.2.1).1 (PV_Kd V.2.1) M' (fun v Rv f e => ⟨rfl, e.1, KM_c V pv sm.2.1 Rv f e.2 (by decide)⟩))
    simpa only [ii_p] using D
