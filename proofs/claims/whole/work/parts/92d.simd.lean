/-! ===== the calls keep the relation: those that ask, and the tape ===== -/
theorem s_fault : Sm3 SRv := by
  intro p0
  refine simP_of (fun n mc ms z u b I S hw R M V => ?_)
  obtain ⟨hB, B, A, wI, M', hM, hT⟩ := VV_f hw R M V
  refine ⟨pFault p0.toInt S, 1, 1, ⟨by decide, by decide⟩, ?_, fun hm g m => ?_⟩
  · have D := T_X11_fault (t0 := b 0) (R32_p p0) hw (o_fault (P := fun x => x = pFault p0.toInt S) R rfl)
    simpa only [ii_p] using D
  · have D := T_X12_fault (R32_p p0) m (i_fault (P := fun x v => x = pFault p0.toInt S ∧ KM v n S) hB M' (fun v Rv f => ⟨rfl, KM_k V V.2.1 rfl rfl Rv f (by decide) (by decide)⟩))
    simpa only [ii_p] using D
theorem s_conflict : Sm18 SRv := by
  intro p0 p1
  refine simP_of (fun n mc ms z u b I S hw R M V => ?_)
  obtain ⟨hB, B, A, wI, M', hM, hT⟩ := VV_f hw R M V
  refine ⟨pConflict p0.toInt p1.toInt S, 2, 3, ⟨by decide, by decide⟩, ?_, fun hm g m => ?_⟩
  · have D := T_X11_conflict (t0 := b 0) (R32_p p0) (R32_p p1) hw (o_conflict (P := fun x => x = pConflict p0.toInt p1.toInt S) R rfl)
    simpa only [ii_p] using D
  · have D := T_X12_conflict (R32_p p0) (R32_p p1) m (i_conflict (P := fun x v => x = pConflict p0.toInt p1.toInt S ∧ KM v n S) hB (RC_Bq R) M' (fun v Rv f => ⟨rfl, KM_k V V.2.1 rfl rfl Rv f (by decide) (by decide)⟩))
    simpa only [ii_p] using D
theorem s_base : Sm20 SRv := by
  intro p0 p1
  refine simP_of (fun n mc ms z u b I S hw R M V => ?_)
  obtain ⟨hB, B, A, wI, M', hM, hT⟩ := VV_f hw R M V
  refine ⟨pBase p0.toInt p1.toInt S, 6, 2, ⟨by decide, by decide⟩, ?_, fun hm g m => ?_⟩
  · have D := T_X11_base (t0 := b 0) (R32_p p0) (R32_p p1) hw (o_base (P := fun x => x = pBase p0.toInt p1.toInt S) R rfl)
    simpa only [ii_p] using D
  · have D := T_X12_base (R32_p p0) (R32_p p1) m (i_base (P := fun x v => x = pBase p0.toInt p1.toInt S ∧ KM v n S) hB M' (fun v Rv f e => ⟨rfl, KM_k V V.2.1 rfl rfl Rv f (by decide) (by decide)⟩))
    simpa only [ii_p] using D
theorem s_difference : Sm22 SRv := by
  intro p0 p1
  refine simP_of (fun n mc ms z u b I S hw R M V => ?_)
  obtain ⟨hB, B, A, wI, M', hM, hT⟩ := VV_f hw R M V
  refine ⟨pDifference p0.toInt p1.toInt S, 1, 2, ⟨by decide, by decide⟩, ?_, fun hm g m => ?_⟩
  · have D := T_X11_difference (t0 := b 0) (R32_p p0) (R32_p p1) hw (o_difference (P := fun x => x = pDifference p0.toInt p1.toInt S) R rfl)
    simpa only [ii_p] using D
  · have D := T_X12_difference (R32_p p0) (R32_p p1) m (i_difference (P := fun x v => x = pDifference p0.toInt p1.toInt S ∧ KM v n S) hB M' (fun v Rv f => ⟨rfl, KM_k V V.2.1 rfl rfl Rv f (by decide) (by decide)⟩))
    simpa only [ii_p] using D
theorem s_sheet : Sm24 SRv := by
  intro p0 p1
  refine simP_of (fun n mc ms z u b I S hw R M V => ?_)
  obtain ⟨hB, B, A, wI, M', hM, hT⟩ := VV_f hw R M V
  refine ⟨pSheet p0.toInt p1.toInt S, 3, 3, ⟨by decide, by decide⟩, ?_, fun hm g m => ?_⟩
  · have D := T_X11_sheet (t0 := b 0) (R32_p p0) (R32_p p1) hw (o_sheet (P := fun x => x = pSheet p0.toInt p1.toInt S) R rfl)
    simpa only [ii_p] using D
  · have D := T_X12_sheet (R32_p p0) (R32_p p1) m (i_sheet (P := fun x v => x = pSheet p0.toInt p1.toInt S ∧ KM v n S) hB M' (fun v Rv f => ⟨rfl, KM_k V V.2.1 rfl rfl Rv f (by decide) (by decide)⟩))
    simpa only [ii_p] using D
theorem VV_cs {n : Nat} {u : Mu} {S : SS} (hB : Bd S) (M : RM u (513 - ((n : Int) + 1)) S) : CoS S.2.2.2.1.1 ∧ (∀ k, 0 ≤ k → k < S.2.1.1 → CoS (S.2.1.2.1 k)) ∧ CoS (S.2.1.2.1 (pHead S)) := by
  have hh := hB.2.2.1.2.1
  have hh1 := hB.2.2.1.1 _ hh.1 hh.2.1
  exact ⟨ShM_CoS M.2.2.2.2.1.1, fun k k0 k1 => ShM_CoS (M.2.2.1.2 k k0 k1).1, ShM_CoS (M.2.2.1.2 (pHead S) hh.2.2 hh1.2).1⟩
theorem s_total : Sm29 SRv := by
  intro p0
  refine simP_of (fun n mc ms z u b I S hw R M V => ?_)
  obtain ⟨hB, B, A, wI, M', hM, hT⟩ := VV_f hw R M V
  obtain ⟨c1, c2, c3⟩ := VV_cs hB M
  have r0 := R32_p p0
  refine ⟨pTotal p0.toInt S, 6, 5, ⟨by decide, by decide⟩, ?_, fun hm g m => ?_⟩
  · have D := T_X11_total (t0 := b 0) (R32_p p0) hw (o_total (P := fun x => x = pTotal p0.toInt S) wI r0.1 r0.2 R c1 c3 rfl)
    simpa only [ii_p] using D
  · have D := T_X12_total (R32_p p0) m (i_total (P := fun x v => x = pTotal p0.toInt S ∧ KM v n S) hB M' B (fun v Rv f => ⟨rfl, KM_k V V.2.1 rfl rfl Rv f (by decide) (by decide)⟩))
    simpa only [ii_p] using D
theorem stay_rf {S : SS} : Stay S S := ⟨rfl, rfl, rfl, rfl⟩
theorem s_written : Sm28 SRv := by
  intro p0 p1 p2 p3
  refine simD_of (fun n mc ms z u b I S hw R M V => ?_)
  obtain ⟨hB, B, A, wI, M', hM, hT⟩ := VV_f hw R M V
  have hV : isShP p0.toInt S → VrS S.2.1.1 (shOf p0.toInt S) ∧ WfS (shOf p0.toInt S) := fun hv => by
    have h1 := hv.1
    have h2 := hv.2
    unfold shOf
    by_cases c : p0.toInt = -1
    · rw [if_pos c]; exact ⟨V.2.1.2.1.1, WfS_M M.2.2.2.2.1.1⟩
    · rw [if_neg c]
      have so := V.2.1.1 p0.toInt (by omega) h2
      exact ⟨(SO_mo (Int.le_of_lt h2) (fun _ _ => Int.le_refl _) so).1, WfS_M (M.2.2.1.2 p0.toInt (by omega) h2).1⟩
  refine ⟨pWritten p0.toInt p1.toInt p2.toInt p3.toInt S, S, ptZ z b S, 414, 0, 0, 412, Ask_1 hw R M V V.2.1 stay_rf (by decide) (by decide), ⟨by decide, by decide⟩, ?_, fun hm g m => ?_⟩
  · have D := T_X11_written (t0 := b 0) (R32_p p0) (R32_p p1) (R32_p p2) (R32_p p3) hw (o_written (P := fun x y => x = pWritten p0.toInt p1.toInt p2.toInt p3.toInt S ∧ KC y b S (ptZ z b S)) R wI hV (fun y Ry f => ⟨rfl, KC_keep R V GrI_rf f Ry (by decide) (by decide) (by decide) rfl rfl⟩))
    simpa only [ii_p] using D
  · have D := T_X12_written (R32_p p0) (R32_p p1) (R32_p p2) (R32_p p3) m (i_written (P := fun x v => x = pWritten p0.toInt p1.toInt p2.toInt p3.toInt S ∧ KM v n S) hB M' B (fun hv => (hV hv).1) (fun v Rv f e => ⟨rfl, KM_k V V.2.1 rfl rfl Rv f (by decide) (by decide)⟩))
    simpa only [ii_p] using D
theorem NxB_2 {n : Nat} {S S' : SS} (e : S'.2 = S.2) (h : NxB (n + 1) S) : NxB n S' := by
  have q : ∀ a, nxt S' a = nxt S a := fun a => by unfold nxt; rw [e]
  have h1 := h.1
  have h2 := h.2
  exact ⟨by rw [q]; omega, by rw [q]; omega⟩
theorem pEnd_f {x : Int} {S : SS} (h0 : 0 ≤ S.1.1) : (0 ≤ (pEnd x S).2.1.1 ∧ (pEnd x S).2.1.1 ≤ S.1.1) ∧ (pEnd x S).2.2 = S.2 := by
  unfold pEnd
  split
  · next c => exact ⟨c, rfl⟩
  · exact ⟨⟨h0, Int.le_refl _⟩, rfl⟩
theorem s_end : Sm1 SRv := by
  intro p0
  refine simD_of (fun n mc ms z u b I S hw R M V => ?_)
  obtain ⟨hB, B, A, wI, M', hM, hT⟩ := VV_f hw R M V
  obtain ⟨e1, e2⟩ := pEnd_f (x := p0.toInt) hT.1
  have pv : PV (pEnd p0.toInt S).2 := PV_end V.2.1
  have nx := V.2.2.1
  obtain ⟨r1, r2⟩ := Rm_1 (S' := (pEnd p0.toInt S).2) (c := 0) (s := 0) V.2.2.2.2.2 (by decide) (by decide) e1.1 e1.2 (by rw [e2]; exact hM.2) (by rw [e2]; exact Int.le_refl _)
  refine ⟨(pEnd p0.toInt S).1, (pEnd p0.toInt S).2, ptZ z b S, 1, 0, 0, 2, ⟨pv, NxB_2 e2 nx, r1, r2⟩, ⟨by decide, by decide⟩, ?_, fun hm g m => ?_⟩
  · have D := T_X11_end (t0 := b 0) (R32_p p0) hw (o_end (P := fun x y => x = (pEnd p0.toInt S).1 ∧ KC y b (pEnd p0.toInt S).2 (ptZ z b S)) R (fun y f Ry => ⟨rfl, KC_keep R V GrI_rf f Ry (by decide) (by decide) (by decide) (by rw [e2]) (by rw [e2])⟩))
    simpa only [ii_p] using D
  · have D := T_X12_end (R32_p p0) m (i_end (P := fun x v => x = (pEnd p0.toInt S).1 ∧ KM v n (pEnd p0.toInt S).2) hB M' (fun v Rv f => ⟨rfl, KM_k V pv (by rw [e2]) (by rw [e2]) Rv f (by decide) (by decide)⟩))
    simpa only [ii_p] using D
theorem pFeed_f {a c d e f : Int} {S : SS} (h0 : 0 ≤ S.1.1) : (0 ≤ (pFeed a c d e f S).2.1.1 ∧ (pFeed a c d e f S).2.1.1 ≤ S.1.1 + 20) ∧ (pFeed a c d e f S).2.2 = S.2 := by
  unfold pFeed
  split
  · exact ⟨⟨by show 0 ≤ S.1.1 + 20; omega, by show S.1.1 + 20 ≤ S.1.1 + 20; omega⟩, rfl⟩
  · exact ⟨⟨h0, by show S.1.1 ≤ S.1.1 + 20; omega⟩, rfl⟩
theorem s_feed : Sm0 SRv := by
  intro p0 p1 p2 p3 p4
  refine simD_of (fun n mc ms z u b I S hw R M V => ?_)
  obtain ⟨hB, B, A, wI, M', hM, hT⟩ := VV_f hw R M V
  obtain ⟨e1, e2⟩ := pFeed_f (a := p0.toInt) (c := p1.toInt) (d := p2.toInt) (e := p3.toInt) (f := p4.toInt) hT.1
  have pv : PV (pFeed p0.toInt p1.toInt p2.toInt p3.toInt p4.toInt S).2 := PV_feed V.2.1
  have nx := V.2.2.1
  have rm := V.2.2.2.2.2
  have hN : RM u (513 - ((n : Int) + 1)) S := M
  refine ⟨(pFeed p0.toInt p1.toInt p2.toInt p3.toInt p4.toInt S).1, (pFeed p0.toInt p1.toInt p2.toInt p3.toInt p4.toInt S).2, ptZ z b S, 2, 0, 0, 1, ⟨pv, NxB_2 e2 nx, ⟨by omega, by omega⟩, ?_, ?_⟩, ⟨by decide, by decide⟩, ?_, fun hm g m => ?_⟩
  · rw [e2]; have := rm.1; omega
  · rw [e2]; have := rm.2; omega
  · have D := T_X11_feed (t0 := b 0) (R32_p p0) (R32_p p1) (R32_p p2) (R32_p p3) (R32_p p4) hw (o_feed (P := fun x y => x = (pFeed p0.toInt p1.toInt p2.toInt p3.toInt p4.toInt S).1 ∧ KC y b (pFeed p0.toInt p1.toInt p2.toInt p3.toInt p4.toInt S).2 (ptZ z b S)) R (fun y f Ry => ⟨rfl, KC_keep R V GrI_rf f Ry (by decide) (by decide) (by decide) (by rw [e2]) (by rw [e2])⟩))
    simpa only [ii_p] using D
  · have D := T_X12_feed (R32_p p0) (R32_p p1) (R32_p p2) (R32_p p3) (R32_p p4) m (i_feed (P := fun x v => x = (pFeed p0.toInt p1.toInt p2.toInt p3.toInt p4.toInt S).1 ∧ KM v n (pFeed p0.toInt p1.toInt p2.toInt p3.toInt p4.toInt S).2) hB hN (fun v Rv f => ⟨rfl, KM_k V pv (by rw [e2]) (by rw [e2]) (by rw [show (513 : Int) - ((n : Int) + 1) + 1 = 513 - (n : Int) by omega] at Rv; exact Rv) f (by decide) (by decide)⟩))
    simpa only [ii_p] using D
theorem s_drop : Sm15 SRv := by
  refine simD_of (fun n mc ms z u b I S hw R M V => ?_)
  obtain ⟨hB, B, A, wI, M', hM, hT⟩ := VV_f hw R M V
  have pv : PV (pDrop S).2 := PV_drop hB V.2.1
  have sm : Stay S (pDrop S).2 := ⟨rfl, rfl, rfl, rfl⟩
  refine ⟨(pDrop S).1, (pDrop S).2, ptZ z b S, 6, 2, 324, 3, Ask_1 hw R M V pv sm (by decide) (by decide), ⟨by decide, by decide⟩, ?_, fun hm g m => ?_⟩
  · exact T_X11_drop (t0 := b 0) hw (o_drop (c := 2) (s := 324) (P := fun x y => x = (pDrop S).1 ∧ KC y b (pDrop S).2 (ptZ z b S)) R (Nat.le_refl _) (Nat.le_refl _) (fun y J g f Ry wn => ⟨rfl, KC_show R V g f Ry (WkN_S wn) (by decide) (by decide) sm.2.1⟩))
  · exact T_X12_drop m (i_drop (P := fun x v => x = (pDrop S).1 ∧ KM v n (pDrop S).2) hB M' (fun v Rv f e => ⟨rfl, KM_c V pv sm.2.1 Rv f (Or.inl e.2) (by decide)⟩))
