/-! ===== the model on a fresh object: what is seen, sorted, copied, fed, entered ===== -/
def FM2 (h : Hp) (g : Nat → Nat) : Prop := FM h g ∧ hI h (g 60) = (fun _ => 0) ∧ hI h (g 69) = (fun _ => 0)
abbrev okA (x y z : Int32) : Prop := (-1 ≤ x ∧ x ≤ 0) ∧ inSh 8 6 y z
theorem shS {h : Hp} {g : Nat → Nat} {x : Int32} (hf : FM h g) (q : -1 ≤ x ∧ x ≤ 0) : ∃ s : Nat, s < 41 ∧ (if x < 0 then (40 : Int32) else x) = nI s ∧ hI h (g 1) s = 8 ∧ hI h (g 2) s = 6 := by
  obtain ⟨hm, z0, z1, z2, -⟩ := hf
  by_cases w : x < 0
  · exact ⟨40, by decide, by rw [if_pos w]; rfl, by rw [z1]; rfl, by rw [z2]; rfl⟩
  · refine ⟨0, by decide, ?_, by rw [z1]; rfl, by rw [z2]; rfl⟩
    rw [if_neg w, eq_i]; simp only [le_i, lt_i, Int32.reduceToInt] at *; show x.toInt = (0 : Int); omega
set_option maxRecDepth 20000 in
theorem e_askedN {h : Hp} {g : Nat → Nat} (x y z : Int32) (hf : FM h g) (hn : ¬ okA x y z) : Con mX12_asked 4 0 0 [vr (some (g 0)), vi x, vi y, vi z] h (fun v u => u = h ∧ v = some (vi (-1))) := by
  obtain ⟨hm, z0, z1, z2, z3, z4, z5, z9, z10, z11, z64⟩ := id hf
  refine con_of rfl (Nat.le_of_ble_eq_true rfl) (by decide) ?_
  show J mX12_asked 4 0 0 _ 0 [some (vr (some (g 0))), some (vi x), some (vi y), some (vi z)] [] h
  refine j_aload_n dX12_asked_0 rfl ?_
  refine j_iload_n dX12_asked_1 rfl ?_
  refine j_callV1 dX12_asked_2 vl_X12_734 (c_isSheet _ hm) hm.1 rfl (by decide) (by omega) (by omega) (Nat.le_of_ble_eq_true rfl) (fun v_2 u_2 p_2 => ?_)
  obtain ⟨e_2, rfl⟩ := p_2
  rw [e_2]
  clear e_2
  dsimp only [rs]
  rw [fmI z0 8 (v := 1) rfl, show (1 : Int32) - 1 = 0 from rfl]
  refine j_if_eq 21 dX12_asked_5 (by decide) (fun c_5 => ?_) (fun c_5 => ?_)
  · refine j_iconst (v := -1) dX12_asked_21 (by decide) ?_
    exact j_ireturn dX12_asked_22 rfl rfl (⟨rfl, rfl⟩)
  · have q := b2_nn.mp c_5
    obtain ⟨s, hs, he, hr, hc⟩ := shS hf q
    refine j_aload_n dX12_asked_8 rfl ?_
    refine j_iload_n dX12_asked_9 rfl ?_
    refine j_callS1 dX12_asked_10 sl_X12_737 (c_sheetAt _) rfl (by decide) (by omega) (by omega) (Nat.le_of_ble_eq_true rfl) (fun v_10 u_10 p_10 => ?_)
    obtain ⟨e_10, rfl⟩ := p_10
    rw [e_10]
    clear e_10
    dsimp only [rs]
    rw [he]
    refine j_iload_n dX12_asked_13 rfl ?_
    refine j_iload_n dX12_asked_14 rfl ?_
    refine j_callV3 dX12_asked_15 vl_X12_321 (c_isCell12 s (by omega) (nr := 8) (nc := 6) _ _ hm hr hc (by decide) (by decide)) hm.1 rfl (by decide) (by omega) (by omega) (Nat.le_of_ble_eq_true rfl) (fun v_15 u_15 p_15 => ?_)
    obtain ⟨e_15, rfl⟩ := p_15
    rw [e_15]
    clear e_15
    dsimp only [rs]
    refine j_if_ne 23 dX12_asked_18 (by decide) (fun c_18 => ?_) (fun c_18 => ?_)
    · exact absurd ⟨q, b2_n.mp c_18⟩ hn
    · refine j_iconst (v := -1) dX12_asked_21 (by decide) ?_
      exact j_ireturn dX12_asked_22 rfl rfl (⟨rfl, rfl⟩)

set_option maxRecDepth 20000 in
theorem c_sheetAt_40 {h : Hp}  : Con mX12_sheetAt 1 0 0 [vi (-1)] h (fun v u => u = h ∧ v = some (vi (40))) := by
  refine con_of rfl (Nat.le_of_ble_eq_true rfl) (by decide) ?_
  show J mX12_sheetAt 1 0 0 _ 0 [some (vi (-1))] [] h
  refine j_iload_n dX12_sheetAt_0 rfl ?_
  refine j_if_ge 9 dX12_sheetAt_1 (by decide) (fun c_1 => ?_) (fun c_1 => ?_)
  · exact absurd c_1 (by decide)
  · refine j_bipush (v := 40) dX12_sheetAt_4 (by decide) ?_
    refine j_goto 10 dX12_sheetAt_6 (by decide) ?_
    exact j_ireturn dX12_sheetAt_10 rfl rfl (⟨rfl, rfl⟩)

set_option maxRecDepth 20000 in
theorem e_asked40 {h : Hp} {g : Nat → Nat} {i j : Nat} (hf : FM h g) (hi : i < 8) (hj : j < 6) : Con mX12_asked 4 0 0 [vr (some (g 0)), vi (-1), vi (nI (i + 1)), vi (nI (j + 1))] h (fun v u => u = h ∧ v = some (vi (nI (320 * 40 + 10 * i + j)))) := by
  obtain ⟨hm, z0, z1, z2, z3, z4, z5, z9, z10, z11, z64⟩ := id hf
  refine con_of rfl (Nat.le_of_ble_eq_true rfl) (by decide) ?_
  show J mX12_asked 4 0 0 _ 0 [some (vr (some (g 0))), some (vi (-1)), some (vi (nI (i + 1))), some (vi (nI (j + 1)))] [] h
  refine j_aload_n dX12_asked_0 rfl ?_
  refine j_iload_n dX12_asked_1 rfl ?_
  refine j_callV1 dX12_asked_2 vl_X12_734 (c_isSheet _ hm) hm.1 rfl (by decide) (by omega) (by omega) (Nat.le_of_ble_eq_true rfl) (fun v_2 u_2 p_2 => ?_)
  obtain ⟨e_2, rfl⟩ := p_2
  rw [e_2]
  clear e_2
  dsimp only [rs]
  rw [fmI z0 8 (v := 1) rfl, show (1 : Int32) - 1 = 0 from rfl]
  refine j_if_eq 21 dX12_asked_5 (by decide) (fun c_5 => ?_) (fun c_5 => ?_)
  · first | exact absurd c_5 (by decide) | exact absurd (b2_n.mpr (by simp only [inSh, nI_toInt (n := i + 1) (by omega), nI_toInt (n := j + 1) (by omega)]; omega)) c_18
  · refine j_aload_n dX12_asked_8 rfl ?_
    refine j_iload_n dX12_asked_9 rfl ?_
    refine j_callS1 dX12_asked_10 sl_X12_737 c_sheetAt_40 rfl (by decide) (by omega) (by omega) (Nat.le_of_ble_eq_true rfl) (fun v_10 u_10 p_10 => ?_)
    obtain ⟨e_10, rfl⟩ := p_10
    rw [e_10]
    clear e_10
    dsimp only [rs]
    refine j_iload_n dX12_asked_13 rfl ?_
    refine j_iload_n dX12_asked_14 rfl ?_
    refine j_callV3 dX12_asked_15 vl_X12_321 (c_isCell12 40 (by decide) (nr := 8) (nc := 6) _ _ hm (by rw [z1]; rfl) (by rw [z2]; rfl) (by decide) (by decide)) hm.1 rfl (by decide) (by omega) (by omega) (Nat.le_of_ble_eq_true rfl) (fun v_15 u_15 p_15 => ?_)
    obtain ⟨e_15, rfl⟩ := p_15
    rw [e_15]
    clear e_15
    dsimp only [rs]
    refine j_if_ne 23 dX12_asked_18 (by decide) (fun c_18 => ?_) (fun c_18 => ?_)
    · refine j_sipush (v := 320) dX12_asked_23 (by decide) ?_
      refine j_iload_n dX12_asked_26 rfl ?_
      refine j_callS1 dX12_asked_27 sl_X12_737 c_sheetAt_40 rfl (by decide) (by omega) (by omega) (Nat.le_of_ble_eq_true rfl) (fun v_27 u_27 p_27 => ?_)
      obtain ⟨e_27, rfl⟩ := p_27
      rw [e_27]
      clear e_27
      dsimp only [rs]
      refine j_imul dX12_asked_30 ?_
      refine j_bipush (v := 10) dX12_asked_31 (by decide) ?_
      refine j_iload_n dX12_asked_33 rfl ?_
      refine j_iconst (v := 1) dX12_asked_34 (by decide) ?_
      refine j_isub dX12_asked_35 ?_
      refine j_imul dX12_asked_36 ?_
      refine j_iadd dX12_asked_37 ?_
      refine j_iload_n dX12_asked_38 rfl ?_
      refine j_iadd dX12_asked_39 ?_
      refine j_iconst (v := 1) dX12_asked_40 (by decide) ?_
      rw [show (320 : Int32) * 40 + 10 * (nI (i + 1) - 1) + nI (j + 1) = nI (320 * 40 + 10 * i + j + 1) by rw [nI_pred, show (40 : Int32) = nI 40 from rfl, li_320, li_10, pk_mul, pk_mul, nI_add, nI_add]; congr 1]
      refine j_isub dX12_asked_41 ?_
      rw [nI_pred]
      exact j_ireturn dX12_asked_42 rfl rfl (⟨rfl, rfl⟩)
    · first | exact absurd c_5 (by decide) | exact absurd (b2_n.mpr (by simp only [inSh, nI_toInt (n := i + 1) (by omega), nI_toInt (n := j + 1) (by omega)]; omega)) c_18

set_option maxRecDepth 20000 in
theorem c_sheetAt_0 {h : Hp}  : Con mX12_sheetAt 1 0 0 [vi 0] h (fun v u => u = h ∧ v = some (vi (0))) := by
  refine con_of rfl (Nat.le_of_ble_eq_true rfl) (by decide) ?_
  show J mX12_sheetAt 1 0 0 _ 0 [some (vi 0)] [] h
  refine j_iload_n dX12_sheetAt_0 rfl ?_
  refine j_if_ge 9 dX12_sheetAt_1 (by decide) (fun c_1 => ?_) (fun c_1 => ?_)
  · refine j_iload_n dX12_sheetAt_9 rfl ?_
    exact j_ireturn dX12_sheetAt_10 rfl rfl (⟨rfl, rfl⟩)
  · exact absurd (by decide) c_1

set_option maxRecDepth 20000 in
theorem e_asked0 {h : Hp} {g : Nat → Nat} {i j : Nat} (hf : FM h g) (hi : i < 8) (hj : j < 6) : Con mX12_asked 4 0 0 [vr (some (g 0)), vi 0, vi (nI (i + 1)), vi (nI (j + 1))] h (fun v u => u = h ∧ v = some (vi (nI (320 * 0 + 10 * i + j)))) := by
  obtain ⟨hm, z0, z1, z2, z3, z4, z5, z9, z10, z11, z64⟩ := id hf
  refine con_of rfl (Nat.le_of_ble_eq_true rfl) (by decide) ?_
  show J mX12_asked 4 0 0 _ 0 [some (vr (some (g 0))), some (vi 0), some (vi (nI (i + 1))), some (vi (nI (j + 1)))] [] h
  refine j_aload_n dX12_asked_0 rfl ?_
  refine j_iload_n dX12_asked_1 rfl ?_
  refine j_callV1 dX12_asked_2 vl_X12_734 (c_isSheet _ hm) hm.1 rfl (by decide) (by omega) (by omega) (Nat.le_of_ble_eq_true rfl) (fun v_2 u_2 p_2 => ?_)
  obtain ⟨e_2, rfl⟩ := p_2
  rw [e_2]
  clear e_2
  dsimp only [rs]
  rw [fmI z0 8 (v := 1) rfl, show (1 : Int32) - 1 = 0 from rfl]
  refine j_if_eq 21 dX12_asked_5 (by decide) (fun c_5 => ?_) (fun c_5 => ?_)
  · first | exact absurd c_5 (by decide) | exact absurd (b2_n.mpr (by simp only [inSh, nI_toInt (n := i + 1) (by omega), nI_toInt (n := j + 1) (by omega)]; omega)) c_18
  · refine j_aload_n dX12_asked_8 rfl ?_
    refine j_iload_n dX12_asked_9 rfl ?_
    refine j_callS1 dX12_asked_10 sl_X12_737 c_sheetAt_0 rfl (by decide) (by omega) (by omega) (Nat.le_of_ble_eq_true rfl) (fun v_10 u_10 p_10 => ?_)
    obtain ⟨e_10, rfl⟩ := p_10
    rw [e_10]
    clear e_10
    dsimp only [rs]
    refine j_iload_n dX12_asked_13 rfl ?_
    refine j_iload_n dX12_asked_14 rfl ?_
    refine j_callV3 dX12_asked_15 vl_X12_321 (c_isCell12 0 (by decide) (nr := 8) (nc := 6) _ _ hm (by rw [z1]; rfl) (by rw [z2]; rfl) (by decide) (by decide)) hm.1 rfl (by decide) (by omega) (by omega) (Nat.le_of_ble_eq_true rfl) (fun v_15 u_15 p_15 => ?_)
    obtain ⟨e_15, rfl⟩ := p_15
    rw [e_15]
    clear e_15
    dsimp only [rs]
    refine j_if_ne 23 dX12_asked_18 (by decide) (fun c_18 => ?_) (fun c_18 => ?_)
    · refine j_sipush (v := 320) dX12_asked_23 (by decide) ?_
      refine j_iload_n dX12_asked_26 rfl ?_
      refine j_callS1 dX12_asked_27 sl_X12_737 c_sheetAt_0 rfl (by decide) (by omega) (by omega) (Nat.le_of_ble_eq_true rfl) (fun v_27 u_27 p_27 => ?_)
      obtain ⟨e_27, rfl⟩ := p_27
      rw [e_27]
      clear e_27
      dsimp only [rs]
      refine j_imul dX12_asked_30 ?_
      refine j_bipush (v := 10) dX12_asked_31 (by decide) ?_
      refine j_iload_n dX12_asked_33 rfl ?_
      refine j_iconst (v := 1) dX12_asked_34 (by decide) ?_
      refine j_isub dX12_asked_35 ?_
      refine j_imul dX12_asked_36 ?_
      refine j_iadd dX12_asked_37 ?_
      refine j_iload_n dX12_asked_38 rfl ?_
      refine j_iadd dX12_asked_39 ?_
      refine j_iconst (v := 1) dX12_asked_40 (by decide) ?_
      rw [show (320 : Int32) * 0 + 10 * (nI (i + 1) - 1) + nI (j + 1) = nI (320 * 0 + 10 * i + j + 1) by rw [nI_pred, show (0 : Int32) = nI 0 from rfl, li_320, li_10, pk_mul, pk_mul, nI_add, nI_add]; congr 1]
      refine j_isub dX12_asked_41 ?_
      rw [nI_pred]
      exact j_ireturn dX12_asked_42 rfl rfl (⟨rfl, rfl⟩)
    · first | exact absurd c_5 (by decide) | exact absurd (b2_n.mpr (by simp only [inSh, nI_toInt (n := i + 1) (by omega), nI_toInt (n := j + 1) (by omega)]; omega)) c_18

set_option maxRecDepth 20000 in
theorem e_kindN {h : Hp} {g : Nat → Nat} (x y z : Int32) (hf : FM h g) (hn : ¬ okA x y z) : Con mX12_kind 6 0 0 [vr (some (g 0)), vi x, vi y, vi z] h (fun v u => v = some (vi (-1))) := by
  obtain ⟨hm, z0, z1, z2, z3, z4, z5, z9, z10, z11, z64⟩ := id hf
  refine con_of rfl (Nat.le_of_ble_eq_true rfl) (by decide) ?_
  show J mX12_kind 6 0 0 _ 0 [some (vr (some (g 0))), some (vi x), some (vi y), some (vi z), none] [] h
  refine j_aload_n dX12_kind_0 rfl ?_
  refine j_iconst (v := 0) dX12_kind_1 (by decide) ?_
  refine j_putI dX12_kind_2 fl_X12_202 rfl rfl rfl hm.1 ?_
  rw [pI_same (fmI z0 0 (v := 0) rfl)]
  refine j_aload_n dX12_kind_5 rfl ?_
  refine j_iload_n dX12_kind_6 rfl ?_
  refine j_iload_n dX12_kind_7 rfl ?_
  refine j_iload_n dX12_kind_8 rfl ?_
  refine j_callV3 dX12_kind_9 vl_X12_740 (e_askedN x y z hf hn) hm.1 rfl (by decide) (by omega) (by omega) (Nat.le_of_ble_eq_true rfl) (fun v_9 u_9 p_9 => ?_)
  obtain ⟨e_9, rfl⟩ := p_9
  rw [e_9]
  clear e_9
  dsimp only [rs]
  refine j_istore dX12_kind_12 (by decide) ?_
  dsimp only [st1, st2, unL, List.set]
  refine j_iload dX12_kind_14 rfl ?_
  refine j_if_ge 21 dX12_kind_16 (by decide) (fun c_16 => ?_) (fun c_16 => ?_)
  · exact absurd c_16 (by decide)
  · refine j_iconst (v := -1) dX12_kind_19 (by decide) ?_
    exact j_ireturn dX12_kind_20 rfl rfl (rfl)

set_option maxRecDepth 20000 in
theorem e_kind40 {h : Hp} {g : Nat → Nat} {i j : Nat} (hf2 : FM2 h g) (hi : i < 8) (hj : j < 6) : Con mX12_kind 6 0 0 [vr (some (g 0)), vi (-1), vi (nI (i + 1)), vi (nI (j + 1))] h (fun v u => v = some (vi 0)) := by
  obtain ⟨hf, z60, z69⟩ := id hf2
  obtain ⟨hm, z0, z1, z2, z3, z4, z5, z9, z10, z11, z64⟩ := id hf
  refine con_of rfl (Nat.le_of_ble_eq_true rfl) (by decide) ?_
  show J mX12_kind 6 0 0 _ 0 [some (vr (some (g 0))), some (vi (-1)), some (vi (nI (i + 1))), some (vi (nI (j + 1))), none] [] h
  refine j_aload_n dX12_kind_0 rfl ?_
  refine j_iconst (v := 0) dX12_kind_1 (by decide) ?_
  refine j_putI dX12_kind_2 fl_X12_202 rfl rfl rfl hm.1 ?_
  rw [pI_same (fmI z0 0 (v := 0) rfl)]
  refine j_aload_n dX12_kind_5 rfl ?_
  refine j_iload_n dX12_kind_6 rfl ?_
  refine j_iload_n dX12_kind_7 rfl ?_
  refine j_iload_n dX12_kind_8 rfl ?_
  refine j_callV3 dX12_kind_9 vl_X12_740 (e_asked40 hf hi hj) hm.1 rfl (by decide) (by omega) (by omega) (Nat.le_of_ble_eq_true rfl) (fun v_9 u_9 p_9 => ?_)
  obtain ⟨e_9, rfl⟩ := p_9
  rw [e_9]
  clear e_9
  dsimp only [rs]
  refine j_istore dX12_kind_12 (by decide) ?_
  dsimp only [st1, st2, unL, List.set]
  refine j_iload dX12_kind_14 rfl ?_
  refine j_if_ge 21 dX12_kind_16 (by decide) (fun c_16 => ?_) (fun c_16 => ?_)
  · refine j_aload_n dX12_kind_21 rfl ?_
    refine j_iload_n dX12_kind_22 rfl ?_
    refine j_callS1 dX12_kind_23 sl_X12_737 c_sheetAt_40 rfl (by decide) (by omega) (by omega) (Nat.le_of_ble_eq_true rfl) (fun v_23 u_23 p_23 => ?_)
    obtain ⟨e_23, rfl⟩ := p_23
    rw [e_23]
    clear e_23
    dsimp only [rs]
    refine j_callV1 dX12_kind_26 vl_X12_743 (e_need40 hm (by rw [z1]; rfl) (by rw [z2]; rfl) z5 z69 z60 z64 (by rw [z1]; rfl) (by rw [z2]; rfl) (fmI z0 8 rfl) (fmI z0 65 rfl)) hm.1 rfl (by decide) (by omega) (by omega) (Nat.le_of_ble_eq_true rfl) (fun v_26 u_26 p_26 => ?_)
    obtain ⟨rfl, pk1, pk2, -⟩ := p_26
    have hm := pk1.1
    dsimp only [rs]
    refine j_aload_n dX12_kind_29 rfl ?_
    refine j_getR dX12_kind_30 fl_X12_109 rfl hm.1 (mO hm rfl) ?_
    refine j_iload dX12_kind_33 rfl ?_
    refine j_iald (320 * 40 + 10 * i + j) dX12_kind_35 (mK hm rfl) rfl (Nat.lt_of_lt_of_eq (by omega) (mN hm (k := 60) (n := 13120) rfl rfl).symm) (Nat.lt_of_le_of_lt (Nat.le_of_eq (mN hm (k := 60) (n := 13120) rfl rfl)) (by decide)) ?_
    rw [congrFun pk2]
    exact j_ireturn dX12_kind_36 rfl rfl (rfl)
  · exact absurd (nI_pos' (by omega)) c_16

set_option maxRecDepth 20000 in
theorem e_kind0 {h : Hp} {g : Nat → Nat} {i j : Nat} (hf2 : FM2 h g) (hi : i < 8) (hj : j < 6) : Con mX12_kind 6 0 0 [vr (some (g 0)), vi 0, vi (nI (i + 1)), vi (nI (j + 1))] h (fun v u => v = some (vi 0)) := by
  obtain ⟨hf, z60, z69⟩ := id hf2
  obtain ⟨hm, z0, z1, z2, z3, z4, z5, z9, z10, z11, z64⟩ := id hf
  refine con_of rfl (Nat.le_of_ble_eq_true rfl) (by decide) ?_
  show J mX12_kind 6 0 0 _ 0 [some (vr (some (g 0))), some (vi 0), some (vi (nI (i + 1))), some (vi (nI (j + 1))), none] [] h
  refine j_aload_n dX12_kind_0 rfl ?_
  refine j_iconst (v := 0) dX12_kind_1 (by decide) ?_
  refine j_putI dX12_kind_2 fl_X12_202 rfl rfl rfl hm.1 ?_
  rw [pI_same (fmI z0 0 (v := 0) rfl)]
  refine j_aload_n dX12_kind_5 rfl ?_
  refine j_iload_n dX12_kind_6 rfl ?_
  refine j_iload_n dX12_kind_7 rfl ?_
  refine j_iload_n dX12_kind_8 rfl ?_
  refine j_callV3 dX12_kind_9 vl_X12_740 (e_asked0 hf hi hj) hm.1 rfl (by decide) (by omega) (by omega) (Nat.le_of_ble_eq_true rfl) (fun v_9 u_9 p_9 => ?_)
  obtain ⟨e_9, rfl⟩ := p_9
  rw [e_9]
  clear e_9
  dsimp only [rs]
  refine j_istore dX12_kind_12 (by decide) ?_
  dsimp only [st1, st2, unL, List.set]
  refine j_iload dX12_kind_14 rfl ?_
  refine j_if_ge 21 dX12_kind_16 (by decide) (fun c_16 => ?_) (fun c_16 => ?_)
  · refine j_aload_n dX12_kind_21 rfl ?_
    refine j_iload_n dX12_kind_22 rfl ?_
    refine j_callS1 dX12_kind_23 sl_X12_737 c_sheetAt_0 rfl (by decide) (by omega) (by omega) (Nat.le_of_ble_eq_true rfl) (fun v_23 u_23 p_23 => ?_)
    obtain ⟨e_23, rfl⟩ := p_23
    rw [e_23]
    clear e_23
    dsimp only [rs]
    refine j_callV1 dX12_kind_26 vl_X12_743 (e_need0 hm (by rw [z1]; rfl) (by rw [z2]; rfl) z5 z69 z60 z64) hm.1 rfl (by decide) (by omega) (by omega) (Nat.le_of_ble_eq_true rfl) (fun v_26 u_26 p_26 => ?_)
    obtain ⟨rfl, pk1, pk2⟩ := p_26
    have hm := pk1.1
    dsimp only [rs]
    refine j_aload_n dX12_kind_29 rfl ?_
    refine j_getR dX12_kind_30 fl_X12_109 rfl hm.1 (mO hm rfl) ?_
    refine j_iload dX12_kind_33 rfl ?_
    refine j_iald (320 * 0 + 10 * i + j) dX12_kind_35 (mK hm rfl) rfl (Nat.lt_of_lt_of_eq (by omega) (mN hm (k := 60) (n := 13120) rfl rfl).symm) (Nat.lt_of_le_of_lt (Nat.le_of_eq (mN hm (k := 60) (n := 13120) rfl rfl)) (by decide)) ?_
    rw [congrFun pk2]
    exact j_ireturn dX12_kind_36 rfl rfl (rfl)
  · exact absurd (nI_pos' (by omega)) c_16

set_option maxRecDepth 20000 in
theorem e_valueN {h : Hp} {g : Nat → Nat} (x y z : Int32) (hf : FM h g) (hn : ¬ okA x y z) : Con mX12_value 6 0 0 [vr (some (g 0)), vi x, vi y, vi z] h (fun v u => v = some (vl 0)) := by
  obtain ⟨hm, z0, z1, z2, z3, z4, z5, z9, z10, z11, z64⟩ := id hf
  refine con_of rfl (Nat.le_of_ble_eq_true rfl) (by decide) ?_
  show J mX12_value 6 0 0 _ 0 [some (vr (some (g 0))), some (vi x), some (vi y), some (vi z), none] [] h
  refine j_aload_n dX12_value_0 rfl ?_
  refine j_iconst (v := 0) dX12_value_1 (by decide) ?_
  refine j_putI dX12_value_2 fl_X12_202 rfl rfl rfl hm.1 ?_
  rw [pI_same (fmI z0 0 (v := 0) rfl)]
  refine j_aload_n dX12_value_5 rfl ?_
  refine j_iload_n dX12_value_6 rfl ?_
  refine j_iload_n dX12_value_7 rfl ?_
  refine j_iload_n dX12_value_8 rfl ?_
  refine j_callV3 dX12_value_9 vl_X12_740 (e_askedN x y z hf hn) hm.1 rfl (by decide) (by omega) (by omega) (Nat.le_of_ble_eq_true rfl) (fun v_9 u_9 p_9 => ?_)
  obtain ⟨e_9, rfl⟩ := p_9
  rw [e_9]
  clear e_9
  dsimp only [rs]
  refine j_istore dX12_value_12 (by decide) ?_
  dsimp only [st1, st2, unL, List.set]
  refine j_iload dX12_value_14 rfl ?_
  refine j_if_ge 21 dX12_value_16 (by decide) (fun c_16 => ?_) (fun c_16 => ?_)
  · exact absurd c_16 (by decide)
  · refine j_lconst (v := 0) dX12_value_19 (by decide) ?_
    exact j_lreturn dX12_value_20 rfl (rfl)

set_option maxRecDepth 20000 in
theorem e_value40 {h : Hp} {g : Nat → Nat} {i j : Nat} (hf2 : FM2 h g) (hi : i < 8) (hj : j < 6) : Con mX12_value 6 0 0 [vr (some (g 0)), vi (-1), vi (nI (i + 1)), vi (nI (j + 1))] h (fun v u => v = some (vl 0)) := by
  obtain ⟨hf, z60, z69⟩ := id hf2
  obtain ⟨hm, z0, z1, z2, z3, z4, z5, z9, z10, z11, z64⟩ := id hf
  refine con_of rfl (Nat.le_of_ble_eq_true rfl) (by decide) ?_
  show J mX12_value 6 0 0 _ 0 [some (vr (some (g 0))), some (vi (-1)), some (vi (nI (i + 1))), some (vi (nI (j + 1))), none] [] h
  refine j_aload_n dX12_value_0 rfl ?_
  refine j_iconst (v := 0) dX12_value_1 (by decide) ?_
  refine j_putI dX12_value_2 fl_X12_202 rfl rfl rfl hm.1 ?_
  rw [pI_same (fmI z0 0 (v := 0) rfl)]
  refine j_aload_n dX12_value_5 rfl ?_
  refine j_iload_n dX12_value_6 rfl ?_
  refine j_iload_n dX12_value_7 rfl ?_
  refine j_iload_n dX12_value_8 rfl ?_
  refine j_callV3 dX12_value_9 vl_X12_740 (e_asked40 hf hi hj) hm.1 rfl (by decide) (by omega) (by omega) (Nat.le_of_ble_eq_true rfl) (fun v_9 u_9 p_9 => ?_)
  obtain ⟨e_9, rfl⟩ := p_9
  rw [e_9]
  clear e_9
  dsimp only [rs]
  refine j_istore dX12_value_12 (by decide) ?_
  dsimp only [st1, st2, unL, List.set]
  refine j_iload dX12_value_14 rfl ?_
  refine j_if_ge 21 dX12_value_16 (by decide) (fun c_16 => ?_) (fun c_16 => ?_)
  · refine j_aload_n dX12_value_21 rfl ?_
    refine j_iload_n dX12_value_22 rfl ?_
    refine j_callS1 dX12_value_23 sl_X12_737 c_sheetAt_40 rfl (by decide) (by omega) (by omega) (Nat.le_of_ble_eq_true rfl) (fun v_23 u_23 p_23 => ?_)
    obtain ⟨e_23, rfl⟩ := p_23
    rw [e_23]
    clear e_23
    dsimp only [rs]
    refine j_callV1 dX12_value_26 vl_X12_743 (e_need40 hm (by rw [z1]; rfl) (by rw [z2]; rfl) z5 z69 z60 z64 (by rw [z1]; rfl) (by rw [z2]; rfl) (fmI z0 8 rfl) (fmI z0 65 rfl)) hm.1 rfl (by decide) (by omega) (by omega) (Nat.le_of_ble_eq_true rfl) (fun v_26 u_26 p_26 => ?_)
    obtain ⟨rfl, pk1, pk2, -⟩ := p_26
    have hm := pk1.1
    dsimp only [rs]
    refine j_aload_n dX12_value_29 rfl ?_
    refine j_getR dX12_value_30 fl_X12_109 rfl hm.1 (mO hm rfl) ?_
    refine j_iload dX12_value_33 rfl ?_
    refine j_iald (320 * 40 + 10 * i + j) dX12_value_35 (mK hm rfl) rfl (Nat.lt_of_lt_of_eq (by omega) (mN hm (k := 60) (n := 13120) rfl rfl).symm) (Nat.lt_of_le_of_lt (Nat.le_of_eq (mN hm (k := 60) (n := 13120) rfl rfl)) (by decide)) ?_
    rw [congrFun pk2]
    refine j_if_ne 43 dX12_value_36 (by decide) (fun c_36 => ?_) (fun c_36 => ?_)
    · exact absurd c_36 (by decide)
    · refine j_lconst (v := 0) dX12_value_39 (by decide) ?_
      refine j_goto 72 dX12_value_40 (by decide) ?_
      exact j_lreturn dX12_value_72 rfl (rfl)
  · exact absurd (nI_pos' (by omega)) c_16

set_option maxRecDepth 20000 in
theorem e_value0 {h : Hp} {g : Nat → Nat} {i j : Nat} (hf2 : FM2 h g) (hi : i < 8) (hj : j < 6) : Con mX12_value 6 0 0 [vr (some (g 0)), vi 0, vi (nI (i + 1)), vi (nI (j + 1))] h (fun v u => v = some (vl 0)) := by
  obtain ⟨hf, z60, z69⟩ := id hf2
  obtain ⟨hm, z0, z1, z2, z3, z4, z5, z9, z10, z11, z64⟩ := id hf
  refine con_of rfl (Nat.le_of_ble_eq_true rfl) (by decide) ?_
  show J mX12_value 6 0 0 _ 0 [some (vr (some (g 0))), some (vi 0), some (vi (nI (i + 1))), some (vi (nI (j + 1))), none] [] h
  refine j_aload_n dX12_value_0 rfl ?_
  refine j_iconst (v := 0) dX12_value_1 (by decide) ?_
  refine j_putI dX12_value_2 fl_X12_202 rfl rfl rfl hm.1 ?_
  rw [pI_same (fmI z0 0 (v := 0) rfl)]
  refine j_aload_n dX12_value_5 rfl ?_
  refine j_iload_n dX12_value_6 rfl ?_
  refine j_iload_n dX12_value_7 rfl ?_
  refine j_iload_n dX12_value_8 rfl ?_
  refine j_callV3 dX12_value_9 vl_X12_740 (e_asked0 hf hi hj) hm.1 rfl (by decide) (by omega) (by omega) (Nat.le_of_ble_eq_true rfl) (fun v_9 u_9 p_9 => ?_)
  obtain ⟨e_9, rfl⟩ := p_9
  rw [e_9]
  clear e_9
  dsimp only [rs]
  refine j_istore dX12_value_12 (by decide) ?_
  dsimp only [st1, st2, unL, List.set]
  refine j_iload dX12_value_14 rfl ?_
  refine j_if_ge 21 dX12_value_16 (by decide) (fun c_16 => ?_) (fun c_16 => ?_)
  · refine j_aload_n dX12_value_21 rfl ?_
    refine j_iload_n dX12_value_22 rfl ?_
    refine j_callS1 dX12_value_23 sl_X12_737 c_sheetAt_0 rfl (by decide) (by omega) (by omega) (Nat.le_of_ble_eq_true rfl) (fun v_23 u_23 p_23 => ?_)
    obtain ⟨e_23, rfl⟩ := p_23
    rw [e_23]
    clear e_23
    dsimp only [rs]
    refine j_callV1 dX12_value_26 vl_X12_743 (e_need0 hm (by rw [z1]; rfl) (by rw [z2]; rfl) z5 z69 z60 z64) hm.1 rfl (by decide) (by omega) (by omega) (Nat.le_of_ble_eq_true rfl) (fun v_26 u_26 p_26 => ?_)
    obtain ⟨rfl, pk1, pk2⟩ := p_26
    have hm := pk1.1
    dsimp only [rs]
    refine j_aload_n dX12_value_29 rfl ?_
    refine j_getR dX12_value_30 fl_X12_109 rfl hm.1 (mO hm rfl) ?_
    refine j_iload dX12_value_33 rfl ?_
    refine j_iald (320 * 0 + 10 * i + j) dX12_value_35 (mK hm rfl) rfl (Nat.lt_of_lt_of_eq (by omega) (mN hm (k := 60) (n := 13120) rfl rfl).symm) (Nat.lt_of_le_of_lt (Nat.le_of_eq (mN hm (k := 60) (n := 13120) rfl rfl)) (by decide)) ?_
    rw [congrFun pk2]
    refine j_if_ne 43 dX12_value_36 (by decide) (fun c_36 => ?_) (fun c_36 => ?_)
    · exact absurd c_36 (by decide)
    · refine j_lconst (v := 0) dX12_value_39 (by decide) ?_
      refine j_goto 72 dX12_value_40 (by decide) ?_
      exact j_lreturn dX12_value_72 rfl (rfl)
  · exact absurd (nI_pos' (by omega)) c_16

set_option maxRecDepth 20000 in
theorem e_letterN {h : Hp} {g : Nat → Nat} (x y z : Int32) (w : Int32) (hf : FM h g) (hn : ¬ okA x y z) : Con mX12_letter 6 0 0 [vr (some (g 0)), vi x, vi y, vi z, vi w] h (fun v u => v = some (vi (-1))) := by
  obtain ⟨hm, z0, z1, z2, z3, z4, z5, z9, z10, z11, z64⟩ := id hf
  refine con_of rfl (Nat.le_of_ble_eq_true rfl) (by decide) ?_
  show J mX12_letter 6 0 0 _ 0 [some (vr (some (g 0))), some (vi x), some (vi y), some (vi z), some (vi w), none] [] h
  refine j_aload_n dX12_letter_0 rfl ?_
  refine j_iconst (v := 0) dX12_letter_1 (by decide) ?_
  refine j_putI dX12_letter_2 fl_X12_202 rfl rfl rfl hm.1 ?_
  rw [pI_same (fmI z0 0 (v := 0) rfl)]
  refine j_aload_n dX12_letter_5 rfl ?_
  refine j_iload_n dX12_letter_6 rfl ?_
  refine j_iload_n dX12_letter_7 rfl ?_
  refine j_iload_n dX12_letter_8 rfl ?_
  refine j_callV3 dX12_letter_9 vl_X12_740 (e_askedN x y z hf hn) hm.1 rfl (by decide) (by omega) (by omega) (Nat.le_of_ble_eq_true rfl) (fun v_9 u_9 p_9 => ?_)
  obtain ⟨e_9, rfl⟩ := p_9
  rw [e_9]
  clear e_9
  dsimp only [rs]
  refine j_istore dX12_letter_12 (by decide) ?_
  dsimp only [st1, st2, unL, List.set]
  refine j_iload dX12_letter_14 rfl ?_
  refine j_if_ge 21 dX12_letter_16 (by decide) (fun c_16 => ?_) (fun c_16 => ?_)
  · exact absurd c_16 (by decide)
  · refine j_iconst (v := -1) dX12_letter_19 (by decide) ?_
    exact j_ireturn dX12_letter_20 rfl rfl (rfl)

set_option maxRecDepth 20000 in
theorem e_letter40 {h : Hp} {g : Nat → Nat} {i j : Nat} (w : Int32) (hf2 : FM2 h g) (hi : i < 8) (hj : j < 6) : Con mX12_letter 6 0 0 [vr (some (g 0)), vi (-1), vi (nI (i + 1)), vi (nI (j + 1)), vi w] h (fun v u => v = some (vi (-1))) := by
  obtain ⟨hf, z60, z69⟩ := id hf2
  obtain ⟨hm, z0, z1, z2, z3, z4, z5, z9, z10, z11, z64⟩ := id hf
  refine con_of rfl (Nat.le_of_ble_eq_true rfl) (by decide) ?_
  show J mX12_letter 6 0 0 _ 0 [some (vr (some (g 0))), some (vi (-1)), some (vi (nI (i + 1))), some (vi (nI (j + 1))), some (vi w), none] [] h
  refine j_aload_n dX12_letter_0 rfl ?_
  refine j_iconst (v := 0) dX12_letter_1 (by decide) ?_
  refine j_putI dX12_letter_2 fl_X12_202 rfl rfl rfl hm.1 ?_
  rw [pI_same (fmI z0 0 (v := 0) rfl)]
  refine j_aload_n dX12_letter_5 rfl ?_
  refine j_iload_n dX12_letter_6 rfl ?_
  refine j_iload_n dX12_letter_7 rfl ?_
  refine j_iload_n dX12_letter_8 rfl ?_
  refine j_callV3 dX12_letter_9 vl_X12_740 (e_asked40 hf hi hj) hm.1 rfl (by decide) (by omega) (by omega) (Nat.le_of_ble_eq_true rfl) (fun v_9 u_9 p_9 => ?_)
  obtain ⟨e_9, rfl⟩ := p_9
  rw [e_9]
  clear e_9
  dsimp only [rs]
  refine j_istore dX12_letter_12 (by decide) ?_
  dsimp only [st1, st2, unL, List.set]
  refine j_iload dX12_letter_14 rfl ?_
  refine j_if_ge 21 dX12_letter_16 (by decide) (fun c_16 => ?_) (fun c_16 => ?_)
  · refine j_aload_n dX12_letter_21 rfl ?_
    refine j_iload_n dX12_letter_22 rfl ?_
    refine j_callS1 dX12_letter_23 sl_X12_737 c_sheetAt_40 rfl (by decide) (by omega) (by omega) (Nat.le_of_ble_eq_true rfl) (fun v_23 u_23 p_23 => ?_)
    obtain ⟨e_23, rfl⟩ := p_23
    rw [e_23]
    clear e_23
    dsimp only [rs]
    refine j_callV1 dX12_letter_26 vl_X12_743 (e_need40 hm (by rw [z1]; rfl) (by rw [z2]; rfl) z5 z69 z60 z64 (by rw [z1]; rfl) (by rw [z2]; rfl) (fmI z0 8 rfl) (fmI z0 65 rfl)) hm.1 rfl (by decide) (by omega) (by omega) (Nat.le_of_ble_eq_true rfl) (fun v_26 u_26 p_26 => ?_)
    obtain ⟨rfl, pk1, pk2, -⟩ := p_26
    have hm := pk1.1
    dsimp only [rs]
    refine j_aload_n dX12_letter_29 rfl ?_
    refine j_getR dX12_letter_30 fl_X12_109 rfl hm.1 (mO hm rfl) ?_
    refine j_iload dX12_letter_33 rfl ?_
    refine j_iald (320 * 40 + 10 * i + j) dX12_letter_35 (mK hm rfl) rfl (Nat.lt_of_lt_of_eq (by omega) (mN hm (k := 60) (n := 13120) rfl rfl).symm) (Nat.lt_of_le_of_lt (Nat.le_of_eq (mN hm (k := 60) (n := 13120) rfl rfl)) (by decide)) ?_
    rw [congrFun pk2]
    refine j_iconst (v := 2) dX12_letter_36 (by decide) ?_
    refine j_icmp_ne 74 dX12_letter_37 (by decide) (fun c_37 => ?_) (fun c_37 => ?_)
    · refine j_iconst (v := -1) dX12_letter_74 (by decide) ?_
      exact j_ireturn dX12_letter_75 rfl rfl (rfl)
    · exact absurd (by decide) c_37
  · exact absurd (nI_pos' (by omega)) c_16

set_option maxRecDepth 20000 in
theorem e_letter0 {h : Hp} {g : Nat → Nat} {i j : Nat} (w : Int32) (hf2 : FM2 h g) (hi : i < 8) (hj : j < 6) : Con mX12_letter 6 0 0 [vr (some (g 0)), vi 0, vi (nI (i + 1)), vi (nI (j + 1)), vi w] h (fun v u => v = some (vi (-1))) := by
  obtain ⟨hf, z60, z69⟩ := id hf2
  obtain ⟨hm, z0, z1, z2, z3, z4, z5, z9, z10, z11, z64⟩ := id hf
  refine con_of rfl (Nat.le_of_ble_eq_true rfl) (by decide) ?_
  show J mX12_letter 6 0 0 _ 0 [some (vr (some (g 0))), some (vi 0), some (vi (nI (i + 1))), some (vi (nI (j + 1))), some (vi w), none] [] h
  refine j_aload_n dX12_letter_0 rfl ?_
  refine j_iconst (v := 0) dX12_letter_1 (by decide) ?_
  refine j_putI dX12_letter_2 fl_X12_202 rfl rfl rfl hm.1 ?_
  rw [pI_same (fmI z0 0 (v := 0) rfl)]
  refine j_aload_n dX12_letter_5 rfl ?_
  refine j_iload_n dX12_letter_6 rfl ?_
  refine j_iload_n dX12_letter_7 rfl ?_
  refine j_iload_n dX12_letter_8 rfl ?_
  refine j_callV3 dX12_letter_9 vl_X12_740 (e_asked0 hf hi hj) hm.1 rfl (by decide) (by omega) (by omega) (Nat.le_of_ble_eq_true rfl) (fun v_9 u_9 p_9 => ?_)
  obtain ⟨e_9, rfl⟩ := p_9
  rw [e_9]
  clear e_9
  dsimp only [rs]
  refine j_istore dX12_letter_12 (by decide) ?_
  dsimp only [st1, st2, unL, List.set]
  refine j_iload dX12_letter_14 rfl ?_
  refine j_if_ge 21 dX12_letter_16 (by decide) (fun c_16 => ?_) (fun c_16 => ?_)
  · refine j_aload_n dX12_letter_21 rfl ?_
    refine j_iload_n dX12_letter_22 rfl ?_
    refine j_callS1 dX12_letter_23 sl_X12_737 c_sheetAt_0 rfl (by decide) (by omega) (by omega) (Nat.le_of_ble_eq_true rfl) (fun v_23 u_23 p_23 => ?_)
    obtain ⟨e_23, rfl⟩ := p_23
    rw [e_23]
    clear e_23
    dsimp only [rs]
    refine j_callV1 dX12_letter_26 vl_X12_743 (e_need0 hm (by rw [z1]; rfl) (by rw [z2]; rfl) z5 z69 z60 z64) hm.1 rfl (by decide) (by omega) (by omega) (Nat.le_of_ble_eq_true rfl) (fun v_26 u_26 p_26 => ?_)
    obtain ⟨rfl, pk1, pk2⟩ := p_26
    have hm := pk1.1
    dsimp only [rs]
    refine j_aload_n dX12_letter_29 rfl ?_
    refine j_getR dX12_letter_30 fl_X12_109 rfl hm.1 (mO hm rfl) ?_
    refine j_iload dX12_letter_33 rfl ?_
    refine j_iald (320 * 0 + 10 * i + j) dX12_letter_35 (mK hm rfl) rfl (Nat.lt_of_lt_of_eq (by omega) (mN hm (k := 60) (n := 13120) rfl rfl).symm) (Nat.lt_of_le_of_lt (Nat.le_of_eq (mN hm (k := 60) (n := 13120) rfl rfl)) (by decide)) ?_
    rw [congrFun pk2]
    refine j_iconst (v := 2) dX12_letter_36 (by decide) ?_
    refine j_icmp_ne 74 dX12_letter_37 (by decide) (fun c_37 => ?_) (fun c_37 => ?_)
    · refine j_iconst (v := -1) dX12_letter_74 (by decide) ?_
      exact j_ireturn dX12_letter_75 rfl rfl (rfl)
    · exact absurd (by decide) c_37
  · exact absurd (nI_pos' (by omega)) c_16

set_option maxRecDepth 20000 in
theorem e_writtenN {h : Hp} {g : Nat → Nat} (x y z : Int32) (w : Int32) (hf : FM h g) (hn : ¬ okA x y z) : Con mX12_written 6 0 0 [vr (some (g 0)), vi x, vi y, vi z, vi w] h (fun v u => v = some (vi (-1))) := by
  obtain ⟨hm, z0, z1, z2, z3, z4, z5, z9, z10, z11, z64⟩ := id hf
  refine con_of rfl (Nat.le_of_ble_eq_true rfl) (by decide) ?_
  show J mX12_written 6 0 0 _ 0 [some (vr (some (g 0))), some (vi x), some (vi y), some (vi z), some (vi w)] [] h
  refine j_aload_n dX12_written_0 rfl ?_
  refine j_iconst (v := 0) dX12_written_1 (by decide) ?_
  refine j_putI dX12_written_2 fl_X12_202 rfl rfl rfl hm.1 ?_
  rw [pI_same (fmI z0 0 (v := 0) rfl)]
  refine j_aload_n dX12_written_5 rfl ?_
  refine j_iload_n dX12_written_6 rfl ?_
  refine j_iload_n dX12_written_7 rfl ?_
  refine j_iload_n dX12_written_8 rfl ?_
  refine j_callV3 dX12_written_9 vl_X12_740 (e_askedN x y z hf hn) hm.1 rfl (by decide) (by omega) (by omega) (Nat.le_of_ble_eq_true rfl) (fun v_9 u_9 p_9 => ?_)
  obtain ⟨e_9, rfl⟩ := p_9
  rw [e_9]
  clear e_9
  dsimp only [rs]
  refine j_if_ge 17 dX12_written_12 (by decide) (fun c_12 => ?_) (fun c_12 => ?_)
  · exact absurd c_12 (by decide)
  · refine j_iconst (v := -1) dX12_written_15 (by decide) ?_
    exact j_ireturn dX12_written_16 rfl rfl (rfl)

set_option maxRecDepth 20000 in
theorem e_write0 {h : Hp} {g : Nat → Nat} (s : Int32) (hf : FM h g) : Con mX12_write 1 0 0 [vr (some (g 0)), vi s, vi 0] h (fun v u => v = none ∧ u = h) := by
  obtain ⟨hm, z0, z1, z2, z3, z4, z5, z9, z10, z11, z64⟩ := id hf
  refine con_of rfl (Nat.le_of_ble_eq_true rfl) (by decide) ?_
  show J mX12_write 1 0 0 _ 0 [some (vr (some (g 0))), some (vi s), some (vi 0), none] [] h
  refine j_aload_n dX12_write_0 rfl ?_
  refine j_iconst (v := 0) dX12_write_1 (by decide) ?_
  refine j_putI dX12_write_2 fl_X12_746 rfl rfl rfl hm.1 ?_
  rw [pI_same (fmI z0 87 (v := 0) rfl)]
  refine j_iload_n dX12_write_5 rfl ?_
  refine j_if_ne 10 dX12_write_6 (by decide) (fun c_6 => ?_) (fun c_6 => ?_)
  · exact absurd c_6 (by decide)
  · exact j_return dX12_write_9 rfl (⟨rfl, rfl⟩)

set_option maxRecDepth 20000 in
theorem e_written40 {h : Hp} {g : Nat → Nat} {i j : Nat} (w : Int32) (hf2 : FM2 h g) (hi : i < 8) (hj : j < 6) : Con mX12_written 6 0 0 [vr (some (g 0)), vi (-1), vi (nI (i + 1)), vi (nI (j + 1)), vi w] h (fun v u => v = some (vi (-1))) := by
  obtain ⟨hf, z60, z69⟩ := id hf2
  obtain ⟨hm, z0, z1, z2, z3, z4, z5, z9, z10, z11, z64⟩ := id hf
  refine con_of rfl (Nat.le_of_ble_eq_true rfl) (by decide) ?_
  show J mX12_written 6 0 0 _ 0 [some (vr (some (g 0))), some (vi (-1)), some (vi (nI (i + 1))), some (vi (nI (j + 1))), some (vi w)] [] h
  refine j_aload_n dX12_written_0 rfl ?_
  refine j_iconst (v := 0) dX12_written_1 (by decide) ?_
  refine j_putI dX12_written_2 fl_X12_202 rfl rfl rfl hm.1 ?_
  rw [pI_same (fmI z0 0 (v := 0) rfl)]
  refine j_aload_n dX12_written_5 rfl ?_
  refine j_iload_n dX12_written_6 rfl ?_
  refine j_iload_n dX12_written_7 rfl ?_
  refine j_iload_n dX12_written_8 rfl ?_
  refine j_callV3 dX12_written_9 vl_X12_740 (e_asked40 hf hi hj) hm.1 rfl (by decide) (by omega) (by omega) (Nat.le_of_ble_eq_true rfl) (fun v_9 u_9 p_9 => ?_)
  obtain ⟨e_9, rfl⟩ := p_9
  rw [e_9]
  clear e_9
  dsimp only [rs]
  refine j_if_ge 17 dX12_written_12 (by decide) (fun c_12 => ?_) (fun c_12 => ?_)
  · refine j_aload_n dX12_written_17 rfl ?_
    refine j_iload_n dX12_written_18 rfl ?_
    refine j_callS1 dX12_written_19 sl_X12_737 c_sheetAt_40 rfl (by decide) (by omega) (by omega) (Nat.le_of_ble_eq_true rfl) (fun v_19 u_19 p_19 => ?_)
    obtain ⟨e_19, rfl⟩ := p_19
    rw [e_19]
    clear e_19
    dsimp only [rs]
    refine j_aload_n dX12_written_22 rfl ?_
    refine j_iload_n dX12_written_23 rfl ?_
    refine j_callS1 dX12_written_24 sl_X12_737 c_sheetAt_40 rfl (by decide) (by omega) (by omega) (Nat.le_of_ble_eq_true rfl) (fun v_24 u_24 p_24 => ?_)
    obtain ⟨e_24, rfl⟩ := p_24
    rw [e_24]
    clear e_24
    dsimp only [rs]
    refine j_iload_n dX12_written_27 rfl ?_
    refine j_iload_n dX12_written_28 rfl ?_
    refine j_callV3 dX12_written_29 vl_X12_812 (c_cellAt 40 (by decide) i j (by omega) (by omega) hm) hm.1 rfl (by decide) (by omega) (by omega) (Nat.le_of_ble_eq_true rfl) (fun v_29 u_29 p_29 => ?_)
    obtain ⟨e_29, rfl⟩ := p_29
    rw [e_29]
    clear e_29
    dsimp only [rs]
    rw [congrFun z5]
    refine j_callV2 dX12_written_32 vl_X12_815 (e_write0 _ hf) hm.1 rfl (by decide) (by omega) (by omega) (Nat.le_of_ble_eq_true rfl) (fun v_32 u_32 p_32 => ?_)
    obtain ⟨rfl, rfl⟩ := p_32
    dsimp only [rs]
    refine j_iload dX12_written_35 rfl ?_
    refine j_iconst (v := 0) dX12_written_37 (by decide) ?_
    refine j_aload_n dX12_written_38 rfl ?_
    refine j_getI dX12_written_39 fl_X12_746 rfl hm.1 ?_
    rw [fmI z0 87 (v := 0) rfl]
    refine j_iconst (v := 1) dX12_written_42 (by decide) ?_
    refine j_isub dX12_written_43 ?_
    refine j_callS3 dX12_written_44 sl_X12_220 (c_in _ _ _) rfl (by decide) (by omega) (by omega) (Nat.le_of_ble_eq_true rfl) (fun v_44 u_44 p_44 => ?_)
    obtain ⟨e_44, rfl⟩ := p_44
    rw [e_44]
    clear e_44
    dsimp only [rs]
    refine j_if_eq 60 dX12_written_47 (by decide) (fun c_47 => ?_) (fun c_47 => ?_)
    · refine j_iconst (v := -1) dX12_written_60 (by decide) ?_
      exact j_ireturn dX12_written_61 rfl rfl (rfl)
    · exact absurd (b2f (by simp only [le_i, Int32.reduceToInt, show ((0 : Int32) - 1).toInt = -1 from rfl]; omega)) c_47
  · exact absurd (nI_pos' (by omega)) c_12

set_option maxRecDepth 20000 in
theorem e_written0 {h : Hp} {g : Nat → Nat} {i j : Nat} (w : Int32) (hf2 : FM2 h g) (hi : i < 8) (hj : j < 6) : Con mX12_written 6 0 0 [vr (some (g 0)), vi 0, vi (nI (i + 1)), vi (nI (j + 1)), vi w] h (fun v u => v = some (vi (-1))) := by
  obtain ⟨hf, z60, z69⟩ := id hf2
  obtain ⟨hm, z0, z1, z2, z3, z4, z5, z9, z10, z11, z64⟩ := id hf
  refine con_of rfl (Nat.le_of_ble_eq_true rfl) (by decide) ?_
  show J mX12_written 6 0 0 _ 0 [some (vr (some (g 0))), some (vi 0), some (vi (nI (i + 1))), some (vi (nI (j + 1))), some (vi w)] [] h
  refine j_aload_n dX12_written_0 rfl ?_
  refine j_iconst (v := 0) dX12_written_1 (by decide) ?_
  refine j_putI dX12_written_2 fl_X12_202 rfl rfl rfl hm.1 ?_
  rw [pI_same (fmI z0 0 (v := 0) rfl)]
  refine j_aload_n dX12_written_5 rfl ?_
  refine j_iload_n dX12_written_6 rfl ?_
  refine j_iload_n dX12_written_7 rfl ?_
  refine j_iload_n dX12_written_8 rfl ?_
  refine j_callV3 dX12_written_9 vl_X12_740 (e_asked0 hf hi hj) hm.1 rfl (by decide) (by omega) (by omega) (Nat.le_of_ble_eq_true rfl) (fun v_9 u_9 p_9 => ?_)
  obtain ⟨e_9, rfl⟩ := p_9
  rw [e_9]
  clear e_9
  dsimp only [rs]
  refine j_if_ge 17 dX12_written_12 (by decide) (fun c_12 => ?_) (fun c_12 => ?_)
  · refine j_aload_n dX12_written_17 rfl ?_
    refine j_iload_n dX12_written_18 rfl ?_
    refine j_callS1 dX12_written_19 sl_X12_737 c_sheetAt_0 rfl (by decide) (by omega) (by omega) (Nat.le_of_ble_eq_true rfl) (fun v_19 u_19 p_19 => ?_)
    obtain ⟨e_19, rfl⟩ := p_19
    rw [e_19]
    clear e_19
    dsimp only [rs]
    refine j_aload_n dX12_written_22 rfl ?_
    refine j_iload_n dX12_written_23 rfl ?_
    refine j_callS1 dX12_written_24 sl_X12_737 c_sheetAt_0 rfl (by decide) (by omega) (by omega) (Nat.le_of_ble_eq_true rfl) (fun v_24 u_24 p_24 => ?_)
    obtain ⟨e_24, rfl⟩ := p_24
    rw [e_24]
    clear e_24
    dsimp only [rs]
    refine j_iload_n dX12_written_27 rfl ?_
    refine j_iload_n dX12_written_28 rfl ?_
    refine j_callV3 dX12_written_29 vl_X12_812 (c_cellAt 0 (by decide) i j (by omega) (by omega) hm) hm.1 rfl (by decide) (by omega) (by omega) (Nat.le_of_ble_eq_true rfl) (fun v_29 u_29 p_29 => ?_)
    obtain ⟨e_29, rfl⟩ := p_29
    rw [e_29]
    clear e_29
    dsimp only [rs]
    rw [congrFun z5]
    refine j_callV2 dX12_written_32 vl_X12_815 (e_write0 _ hf) hm.1 rfl (by decide) (by omega) (by omega) (Nat.le_of_ble_eq_true rfl) (fun v_32 u_32 p_32 => ?_)
    obtain ⟨rfl, rfl⟩ := p_32
    dsimp only [rs]
    refine j_iload dX12_written_35 rfl ?_
    refine j_iconst (v := 0) dX12_written_37 (by decide) ?_
    refine j_aload_n dX12_written_38 rfl ?_
    refine j_getI dX12_written_39 fl_X12_746 rfl hm.1 ?_
    rw [fmI z0 87 (v := 0) rfl]
    refine j_iconst (v := 1) dX12_written_42 (by decide) ?_
    refine j_isub dX12_written_43 ?_
    refine j_callS3 dX12_written_44 sl_X12_220 (c_in _ _ _) rfl (by decide) (by omega) (by omega) (Nat.le_of_ble_eq_true rfl) (fun v_44 u_44 p_44 => ?_)
    obtain ⟨e_44, rfl⟩ := p_44
    rw [e_44]
    clear e_44
    dsimp only [rs]
    refine j_if_eq 60 dX12_written_47 (by decide) (fun c_47 => ?_) (fun c_47 => ?_)
    · refine j_iconst (v := -1) dX12_written_60 (by decide) ?_
      exact j_ireturn dX12_written_61 rfl rfl (rfl)
    · exact absurd (b2f (by simp only [le_i, Int32.reduceToInt, show ((0 : Int32) - 1).toInt = -1 from rfl]; omega)) c_47
  · exact absurd (nI_pos' (by omega)) c_12

set_option maxRecDepth 20000 in
theorem e_isAhead {h : Hp} {g : Nat → Nat} {a b : Nat} (t : Int32) (hm : MW h g) (z60 : hI h (g 60) = fun _ => 0) (ha : a < 13120) (hb : b < 13120) : Con mX12_isAhead 2 0 0 [vr (some (g 0)), vi (nI a), vi (nI b), vi t] h (fun v u => u = h ∧ v = some (vi (0))) := by
  refine con_of rfl (Nat.le_of_ble_eq_true rfl) (by decide) ?_
  show J mX12_isAhead 2 0 0 _ 0 [some (vr (some (g 0))), some (vi (nI a)), some (vi (nI b)), some (vi t), none, none, none] [] h
  refine j_aload_n dX12_isAhead_0 rfl ?_
  refine j_getR dX12_isAhead_1 fl_X12_109 rfl hm.1 (mO hm rfl) ?_
  refine j_iload_n dX12_isAhead_4 rfl ?_
  refine j_iald a dX12_isAhead_5 (mK hm rfl) rfl (Nat.lt_of_lt_of_eq (by omega) (mN hm (k := 60) (n := 13120) rfl rfl).symm) (Nat.lt_of_le_of_lt (Nat.le_of_eq (mN hm (k := 60) (n := 13120) rfl rfl)) (by decide)) ?_
  rw [congrFun z60]
  refine j_callS1 dX12_isAhead_6 sl_X12_850 (c_rank _) rfl (by decide) (by omega) (by omega) (Nat.le_of_ble_eq_true rfl) (fun v_6 u_6 p_6 => ?_)
  obtain ⟨e_6, rfl⟩ := p_6
  rw [e_6]
  clear e_6
  dsimp only [rs]
  refine j_istore dX12_isAhead_9 (by decide) ?_
  dsimp only [st1, st2, unL, List.set]
  refine j_aload_n dX12_isAhead_11 rfl ?_
  refine j_getR dX12_isAhead_12 fl_X12_109 rfl hm.1 (mO hm rfl) ?_
  refine j_iload_n dX12_isAhead_15 rfl ?_
  refine j_iald b dX12_isAhead_16 (mK hm rfl) rfl (Nat.lt_of_lt_of_eq (by omega) (mN hm (k := 60) (n := 13120) rfl rfl).symm) (Nat.lt_of_le_of_lt (Nat.le_of_eq (mN hm (k := 60) (n := 13120) rfl rfl)) (by decide)) ?_
  rw [congrFun z60]
  refine j_callS1 dX12_isAhead_17 sl_X12_850 (c_rank _) rfl (by decide) (by omega) (by omega) (Nat.le_of_ble_eq_true rfl) (fun v_17 u_17 p_17 => ?_)
  obtain ⟨e_17, rfl⟩ := p_17
  rw [e_17]
  clear e_17
  dsimp only [rs]
  refine j_istore dX12_isAhead_20 (by decide) ?_
  dsimp only [st1, st2, unL, List.set]
  refine j_iload dX12_isAhead_22 rfl ?_
  refine j_iconst (v := 5) dX12_isAhead_24 (by decide) ?_
  refine j_icmp_eq 34 dX12_isAhead_25 (by decide) (fun c_25 => ?_) (fun c_25 => ?_)
  · refine j_iload dX12_isAhead_34 rfl ?_
    refine j_iload dX12_isAhead_36 rfl ?_
    refine j_icmp_ge 45 dX12_isAhead_38 (by decide) (fun c_38 => ?_) (fun c_38 => ?_)
    · refine j_iconst (v := 0) dX12_isAhead_45 (by decide) ?_
      exact j_ireturn dX12_isAhead_46 rfl rfl (⟨rfl, rfl⟩)
    · exact absurd (by decide) c_38
  · exact absurd rfl c_25

set_option maxRecDepth 20000 in
theorem l_sort2 {g : Nat → Nat} {a b c m : Nat} {t : Int32} (hab : a + m ≤ 8) : ∀ (n : Nat) (i : Nat) (u : Hp), m - i < n → (i ≤ m ∧ KM g u ∧ (∀ j, j < m → hI u (g 88) j = nI j)) → J mX12_sort 6 0 0 (nx (an g 0 0)) 196 [some (vr (some (g 0))), some (vi (nI (c + 1))), some (vi (nI (a + 1))), some (vi (nI (b + 1))), some (vi t), some (vi (nI m)), some (vi (nI (12800 + 10 * a + c))), some (vi 41), some (vi 0), some (vi (nI i))] [] u := by
  intro n
  induction n with
  | zero => intro i u hlt; omega
  | succ n ih =>
    intro i u hlt hinv
    have hm := hinv.2.1.1
    refine j_iload dX12_sort_196 rfl ?_
    refine j_iload dX12_sort_198 rfl ?_
    refine j_icmp_ge 255 dX12_sort_200 (by decide) (fun c_200 => ?_) (fun c_200 => ?_)
    · refine j_iload dX12_sort_255 rfl ?_
      exact j_ireturn dX12_sort_257 rfl rfl (⟨rfl, hinv.2.1⟩)
    · have hlt2 : i < m := by rw [nI_leI (by omega) (by omega)] at c_200; omega
      refine j_iload dX12_sort_203 rfl ?_
      refine j_aload_n dX12_sort_205 rfl ?_
      refine j_getR dX12_sort_206 fl_X12_156 rfl hm.1 (mO hm rfl) ?_
      refine j_iload dX12_sort_209 rfl ?_
      refine j_iald i dX12_sort_211 (mK hm rfl) rfl (Nat.lt_of_lt_of_eq (by omega) (mN hm (k := 88) (n := 32) rfl rfl).symm) (Nat.lt_of_le_of_lt (Nat.le_of_eq (mN hm (k := 88) (n := 32) rfl rfl)) (by decide)) ?_
      rw [hinv.2.2 i hlt2]
      refine j_iload dX12_sort_212 rfl ?_
      refine j_icmp_eq 221 dX12_sort_214 (by decide) (fun c_214 => ?_) (fun c_214 => ?_)
      · refine j_iconst (v := 0) dX12_sort_221 (by decide) ?_
        refine j_iadd dX12_sort_222 ?_
        refine j_istore dX12_sort_223 (by decide) ?_
        dsimp only [st1, st2, unL, List.set]
        refine j_aload_n dX12_sort_225 rfl ?_
        refine j_iconst (v := 0) dX12_sort_226 (by decide) ?_
        refine j_iload_n dX12_sort_227 rfl ?_
        refine j_iconst (v := 1) dX12_sort_228 (by decide) ?_
        refine j_isub dX12_sort_229 ?_
        rw [nI_pred]
        refine j_aload_n dX12_sort_230 rfl ?_
        refine j_getR dX12_sort_231 fl_X12_156 rfl hm.1 (mO hm rfl) ?_
        refine j_iload dX12_sort_234 rfl ?_
        refine j_iald i dX12_sort_236 (mK hm rfl) rfl (Nat.lt_of_lt_of_eq (by omega) (mN hm (k := 88) (n := 32) rfl rfl).symm) (Nat.lt_of_le_of_lt (Nat.le_of_eq (mN hm (k := 88) (n := 32) rfl rfl)) (by decide)) ?_
        rw [hinv.2.2 i hlt2]
        refine j_iadd dX12_sort_237 ?_
        rw [nI_add]
        refine j_iload dX12_sort_238 rfl ?_
        refine j_iload_n dX12_sort_240 rfl ?_
        refine j_iconst (v := 1) dX12_sort_241 (by decide) ?_
        refine j_isub dX12_sort_242 ?_
        rw [nI_pred]
        refine j_iload dX12_sort_243 rfl ?_
        refine j_iadd dX12_sort_245 ?_
        rw [nI_add]
        refine j_callV4 dX12_sort_246 vl_X12_831 (c_comeLine0 (s := 41) (a := a + i) (b := a + i) hm (by decide) (by decide) (by omega) (by omega)) hm.1 rfl (by decide) (by omega) (by omega) (Nat.le_of_ble_eq_true rfl) (fun v_246 u_246 p_246 => ?_)
        obtain ⟨rfl, rfl⟩ := p_246
        dsimp only [rs]
        refine j_iinc dX12_sort_249 rfl ?_
        dsimp only [st1, st2, unL, List.set]
        refine j_goto 196 dX12_sort_252 (by decide) ?_
        refine j_lle (lv' := [some (vr (some (g 0))), some (vi (nI (c + 1))), some (vi (nI (a + 1))), some (vi (nI (b + 1))), some (vi t), some (vi (nI m)), some (vi (nI (12800 + 10 * a + c))), some (vi 41), some (vi 0), some (vi (nI (i + 1)))]) (by simp [lle, nI_1]) ?_
        exact ih (i + 1) _ (by omega) ⟨by omega, ⟨hm, by rw [hI_sI, if_neg (mNe hm (i := 0) (j := 5) rfl rfl rfl), hI_pIn (mNe hm (i := 0) (j := 3) rfl rfl rfl)]; exact hinv.2.1.2⟩, fun j hj => by rw [hI_sI, if_neg (mNe hm (i := 88) (j := 5) rfl rfl rfl), hI_pIn (mNe hm (i := 88) (j := 3) rfl rfl rfl)]; exact hinv.2.2 j hj⟩
      · exact absurd rfl c_214

set_option maxRecDepth 20000 in
theorem l_sort1 {h : Hp} {g : Nat → Nat} {a b c m : Nat} {t : Int32} (hf : FM h g) (hab : a + m ≤ 8) (hc : c < 6) : ∀ (n : Nat) (i : Nat) (u : Hp), m - i < n → (i ≤ m ∧ (Km [0, 60, 62, 63, 64, 66, 84, 88] g h u ∧ (∀ k, k ≠ 65 → hI u (g 0) k = hI h (g 0) k) ∧ hI u (g 60) = (fun _ => 0)) ∧ (∀ j, j < i → hI u (g 88) j = nI j)) → J mX12_sort 6 0 0 (nx (an g 0 0)) 99 [some (vr (some (g 0))), some (vi (nI (c + 1))), some (vi (nI (a + 1))), some (vi (nI (b + 1))), some (vi t), some (vi (nI m)), some (vi (nI (12800 + 10 * a + c))), some (vi (nI i)), none, none] [] u := by
  intro n
  induction n with
  | zero => intro i u hlt; omega
  | succ n ih =>
    intro i u hlt hinv
    have hm := hinv.2.1.1.1
    have z0 := hf.2.1
    refine j_iload dX12_sort_99 rfl ?_
    refine j_iload dX12_sort_101 rfl ?_
    refine j_icmp_ge 184 dX12_sort_103 (by decide) (fun c_103 => ?_) (fun c_103 => ?_)
    · have he : i = m := by rw [nI_leI (by omega) (by omega)] at c_103; omega
      subst he
      refine j_aload_n dX12_sort_184 rfl ?_
      refine j_callV0 dX12_sort_185 vl_X12_340 (c_stepA (a := 0) (b := 0) hm (by rw [hinv.2.1.2.1 15 (by decide)]; exact fmI z0 15 rfl) (by rw [hinv.2.1.2.1 16 (by decide)]; exact fmI z0 16 rfl) (by decide) (by decide)) hm.1 rfl (by decide) (by omega) (by omega) (Nat.le_of_ble_eq_true rfl) (fun v_185 u_185 p_185 => ?_)
      obtain ⟨rfl, rfl⟩ := p_185
      dsimp only [rs]
      refine j_istore dX12_sort_188 (by decide) ?_
      dsimp only [st1, st2, unL, List.set]
      refine j_iconst (v := 0) dX12_sort_190 (by decide) ?_
      refine j_istore dX12_sort_191 (by decide) ?_
      dsimp only [st1, st2, unL, List.set]
      refine j_iconst (v := 0) dX12_sort_193 (by decide) ?_
      refine j_istore dX12_sort_194 (by decide) ?_
      dsimp only [st1, st2, unL, List.set]
      refine j_lle (lv' := [some (vr (some (g 0))), some (vi (nI (c + 1))), some (vi (nI (a + 1))), some (vi (nI (b + 1))), some (vi t), some (vi (nI i)), some (vi (nI (12800 + 10 * a + c))), some (vi 41), some (vi 0), some (vi (nI 0))]) (by simp [lle]; exact ⟨rfl, rfl⟩) ?_
      exact l_sort2 hab 9 0 _ (by omega) ⟨by omega, ⟨hm, by rw [stA_f hm (by decide) (by decide) (by decide), hinv.2.1.2.1 0 (by decide)]; exact fmI z0 0 rfl⟩, fun j hj => by rw [stA_o hm rfl (by decide)]; exact hinv.2.2 j hj⟩
    · have hlt2 : i < m := by rw [nI_leI (by omega) (by omega)] at c_103; omega
      refine j_iload dX12_sort_106 rfl ?_
      refine j_istore dX12_sort_108 (by decide) ?_
      dsimp only [st1, st2, unL, List.set]
      refine j_iload dX12_sort_110 rfl ?_
      refine j_if_le 169 dX12_sort_112 (by decide) (fun c_112 => ?_) (fun c_112 => ?_)
      · refine j_aload_n dX12_sort_169 rfl ?_
        refine j_getR dX12_sort_170 fl_X12_156 rfl hm.1 (mO hm rfl) ?_
        refine j_iload dX12_sort_173 rfl ?_
        refine j_iload dX12_sort_175 rfl ?_
        refine j_iast i dX12_sort_177 (mK hm rfl) rfl (Nat.lt_of_lt_of_eq (by omega) (mN hm (k := 88) (n := 32) rfl rfl).symm) (Nat.lt_of_le_of_lt (Nat.le_of_eq (mN hm (k := 88) (n := 32) rfl rfl)) (by decide)) ?_
        refine j_iinc dX12_sort_178 rfl ?_
        dsimp only [st1, st2, unL, List.set]
        refine j_goto 99 dX12_sort_181 (by decide) ?_
        refine j_lle (lv' := [some (vr (some (g 0))), some (vi (nI (c + 1))), some (vi (nI (a + 1))), some (vi (nI (b + 1))), some (vi t), some (vi (nI m)), some (vi (nI (12800 + 10 * a + c))), some (vi (nI (i + 1))), none, none]) (by simp [lle, nI_1]) ?_
        have hj2 : ∀ j, j < i + 1 → hI (pI u (g 88) i (nI i)) (g 88) j = nI j := fun j hj => by
          rw [hI_pI]
          by_cases e : j = i
          · subst e; rw [if_pos ⟨rfl, rfl⟩]
          · rw [if_neg (fun w => e w.2)]; exact hinv.2.2 j (by omega)
        exact ih (i + 1) _ (by omega) ⟨by omega, ⟨Km_pI hinv.2.1.1 rfl rfl, fun k hk => by rw [hI_pIn (mNe hm (i := 0) (j := 88) rfl rfl rfl)]; exact hinv.2.1.2.1 k hk, by rw [hI_pIn (mNe hm (i := 60) (j := 88) rfl rfl rfl)]; exact hinv.2.1.2.2⟩, hj2⟩
      · have hi0 : 0 < i := by rw [li_0, nI_leI (by omega) (by omega)] at c_112; omega
        refine j_aload_n dX12_sort_115 rfl ?_
        refine j_iload dX12_sort_116 rfl ?_
        refine j_bipush (v := 10) dX12_sort_118 (by decide) ?_
        refine j_iload dX12_sort_120 rfl ?_
        refine j_imul dX12_sort_122 ?_
        refine j_iadd dX12_sort_123 ?_
        rw [li_10, pk_mul, nI_add]
        refine j_iload dX12_sort_124 rfl ?_
        refine j_bipush (v := 10) dX12_sort_126 (by decide) ?_
        refine j_aload_n dX12_sort_128 rfl ?_
        refine j_getR dX12_sort_129 fl_X12_156 rfl hm.1 (mO hm rfl) ?_
        refine j_iload dX12_sort_132 rfl ?_
        refine j_iconst (v := 1) dX12_sort_134 (by decide) ?_
        refine j_isub dX12_sort_135 ?_
        refine j_iald (i - 1) dX12_sort_136 (mK hm rfl) (by rw [li_1, pk_sub (by omega)]) (Nat.lt_of_lt_of_eq (by omega) (mN hm (k := 88) (n := 32) rfl rfl).symm) (Nat.lt_of_le_of_lt (Nat.le_of_eq (mN hm (k := 88) (n := 32) rfl rfl)) (by decide)) ?_
        rw [hinv.2.2 (i - 1) (by omega)]
        refine j_imul dX12_sort_137 ?_
        refine j_iadd dX12_sort_138 ?_
        rw [li_10, pk_mul, nI_add]
        refine j_iload dX12_sort_139 rfl ?_
        refine j_callV3 dX12_sort_141 vl_X12_853 (e_isAhead (a := 12800 + 10 * a + c + 10 * i) (b := 12800 + 10 * a + c + 10 * (i - 1)) t hm hinv.2.1.2.2 (by omega) (by omega)) hm.1 rfl (by decide) (by omega) (by omega) (Nat.le_of_ble_eq_true rfl) (fun v_141 u_141 p_141 => ?_)
        obtain ⟨e_141, rfl⟩ := p_141
        rw [e_141]
        clear e_141
        dsimp only [rs]
        refine j_if_eq 169 dX12_sort_144 (by decide) (fun c_144 => ?_) (fun c_144 => ?_)
        · refine j_aload_n dX12_sort_169 rfl ?_
          refine j_getR dX12_sort_170 fl_X12_156 rfl hm.1 (mO hm rfl) ?_
          refine j_iload dX12_sort_173 rfl ?_
          refine j_iload dX12_sort_175 rfl ?_
          refine j_iast i dX12_sort_177 (mK hm rfl) rfl (Nat.lt_of_lt_of_eq (by omega) (mN hm (k := 88) (n := 32) rfl rfl).symm) (Nat.lt_of_le_of_lt (Nat.le_of_eq (mN hm (k := 88) (n := 32) rfl rfl)) (by decide)) ?_
          refine j_iinc dX12_sort_178 rfl ?_
          dsimp only [st1, st2, unL, List.set]
          refine j_goto 99 dX12_sort_181 (by decide) ?_
          refine j_lle (lv' := [some (vr (some (g 0))), some (vi (nI (c + 1))), some (vi (nI (a + 1))), some (vi (nI (b + 1))), some (vi t), some (vi (nI m)), some (vi (nI (12800 + 10 * a + c))), some (vi (nI (i + 1))), none, none]) (by simp [lle, nI_1]) ?_
          have hj2 : ∀ j, j < i + 1 → hI (pI u (g 88) i (nI i)) (g 88) j = nI j := fun j hj => by
            rw [hI_pI]
            by_cases e : j = i
            · subst e; rw [if_pos ⟨rfl, rfl⟩]
            · rw [if_neg (fun w => e w.2)]; exact hinv.2.2 j (by omega)
          exact ih (i + 1) _ (by omega) ⟨by omega, ⟨Km_pI hinv.2.1.1 rfl rfl, fun k hk => by rw [hI_pIn (mNe hm (i := 0) (j := 88) rfl rfl rfl)]; exact hinv.2.1.2.1 k hk, by rw [hI_pIn (mNe hm (i := 60) (j := 88) rfl rfl rfl)]; exact hinv.2.1.2.2⟩, hj2⟩
        · exact absurd rfl c_144

def soT (x y z : Int32) : Int32 := if inSh 8 6 y x ∧ inSh 8 6 z x then (if z < y then 2 else 0) else 1
set_option maxRecDepth 20000 in
theorem e_sort {h : Hp} {g : Nat → Nat} (x y z t : Int32) (hf2 : FM2 h g) : Con mX12_sort 6 0 0 [vr (some (g 0)), vi x, vi y, vi z, vi t] h (an g 0 (soT x y z)) := by
  obtain ⟨hf, z60, z69⟩ := id hf2
  obtain ⟨hm, z0, z1, z2, z3, z4, z5, z9, z10, z11, z64⟩ := id hf
  refine con_of rfl (Nat.le_of_ble_eq_true rfl) (by decide) ?_
  show J mX12_sort 6 0 0 _ 0 [some (vr (some (g 0))), some (vi x), some (vi y), some (vi z), some (vi t), none, none, none, none, none] [] h
  refine j_aload_n dX12_sort_0 rfl ?_
  refine j_iconst (v := 0) dX12_sort_1 (by decide) ?_
  refine j_putI dX12_sort_2 fl_X12_202 rfl rfl rfl hm.1 ?_
  rw [pI_same (fmI z0 0 (v := 0) rfl)]
  refine j_iload_n dX12_sort_5 rfl ?_
  refine j_iconst (v := 1) dX12_sort_6 (by decide) ?_
  refine j_aload_n dX12_sort_7 rfl ?_
  refine j_getR dX12_sort_8 fl_X12_13 rfl hm.1 (mO hm rfl) ?_
  refine j_bipush (v := 40) dX12_sort_11 (by decide) ?_
  refine j_iald 40 dX12_sort_13 (mK hm rfl) rfl (Nat.lt_of_lt_of_eq (by omega) (mN hm (k := 2) (n := 122) rfl rfl).symm) (Nat.lt_of_le_of_lt (Nat.le_of_eq (mN hm (k := 2) (n := 122) rfl rfl)) (by decide)) ?_
  rw [show hI h (g 2) 40 = 6 by rw [z2]; rfl]
  refine j_callS3 dX12_sort_14 sl_X12_220 (c_in _ _ _) rfl (by decide) (by omega) (by omega) (Nat.le_of_ble_eq_true rfl) (fun v_14 u_14 p_14 => ?_)
  obtain ⟨e_14, rfl⟩ := p_14
  rw [e_14]
  clear e_14
  dsimp only [rs]
  refine j_if_eq 50 dX12_sort_17 (by decide) (fun c_17 => ?_) (fun c_17 => ?_)
  · refine j_aload_n dX12_sort_50 rfl ?_
    refine j_iconst (v := 1) dX12_sort_51 (by decide) ?_
    refine j_callV1 dX12_sort_52 vl_X12_237 (c_throwing 1 hm) hm.1 rfl (by decide) (by omega) (by omega) (Nat.le_of_ble_eq_true rfl) (fun v_52 u_52 p_52 => ?_)
    obtain ⟨e_, rfl⟩ := p_52
    rw [e_]
    clear e_
    dsimp only [rs]
    have qq : ¬ (inSh 8 6 y x ∧ inSh 8 6 z x) := fun w => by
      simp only [inSh] at w
      first | exact b2_0.mp c_17 (by simp only [inSh, le_i, Int32.reduceToInt] at *; omega) | exact b2_0.mp c_32 (by simp only [inSh, le_i, Int32.reduceToInt] at *; omega) | exact b2_0.mp (Classical.not_not.mp c_47) (by simp only [inSh, le_i, Int32.reduceToInt] at *; omega)
    exact j_ireturn dX12_sort_55 rfl rfl ⟨rfl, hm, by rw [hI_pI, if_pos ⟨rfl, rfl⟩, soT, if_neg qq]⟩
  · refine j_iload_n dX12_sort_20 rfl ?_
    refine j_iconst (v := 1) dX12_sort_21 (by decide) ?_
    refine j_aload_n dX12_sort_22 rfl ?_
    refine j_getR dX12_sort_23 fl_X12_7 rfl hm.1 (mO hm rfl) ?_
    refine j_bipush (v := 40) dX12_sort_26 (by decide) ?_
    refine j_iald 40 dX12_sort_28 (mK hm rfl) rfl (Nat.lt_of_lt_of_eq (by omega) (mN hm (k := 1) (n := 122) rfl rfl).symm) (Nat.lt_of_le_of_lt (Nat.le_of_eq (mN hm (k := 1) (n := 122) rfl rfl)) (by decide)) ?_
    rw [show hI h (g 1) 40 = 8 by rw [z1]; rfl]
    refine j_callS3 dX12_sort_29 sl_X12_220 (c_in _ _ _) rfl (by decide) (by omega) (by omega) (Nat.le_of_ble_eq_true rfl) (fun v_29 u_29 p_29 => ?_)
    obtain ⟨e_29, rfl⟩ := p_29
    rw [e_29]
    clear e_29
    dsimp only [rs]
    refine j_if_eq 50 dX12_sort_32 (by decide) (fun c_32 => ?_) (fun c_32 => ?_)
    · refine j_aload_n dX12_sort_50 rfl ?_
      refine j_iconst (v := 1) dX12_sort_51 (by decide) ?_
      refine j_callV1 dX12_sort_52 vl_X12_237 (c_throwing 1 hm) hm.1 rfl (by decide) (by omega) (by omega) (Nat.le_of_ble_eq_true rfl) (fun v_52 u_52 p_52 => ?_)
      obtain ⟨e_, rfl⟩ := p_52
      rw [e_]
      clear e_
      dsimp only [rs]
      have qq : ¬ (inSh 8 6 y x ∧ inSh 8 6 z x) := fun w => by
        simp only [inSh] at w
        first | exact b2_0.mp c_17 (by simp only [inSh, le_i, Int32.reduceToInt] at *; omega) | exact b2_0.mp c_32 (by simp only [inSh, le_i, Int32.reduceToInt] at *; omega) | exact b2_0.mp (Classical.not_not.mp c_47) (by simp only [inSh, le_i, Int32.reduceToInt] at *; omega)
      exact j_ireturn dX12_sort_55 rfl rfl ⟨rfl, hm, by rw [hI_pI, if_pos ⟨rfl, rfl⟩, soT, if_neg qq]⟩
    · refine j_iload_n dX12_sort_35 rfl ?_
      refine j_iconst (v := 1) dX12_sort_36 (by decide) ?_
      refine j_aload_n dX12_sort_37 rfl ?_
      refine j_getR dX12_sort_38 fl_X12_7 rfl hm.1 (mO hm rfl) ?_
      refine j_bipush (v := 40) dX12_sort_41 (by decide) ?_
      refine j_iald 40 dX12_sort_43 (mK hm rfl) rfl (Nat.lt_of_lt_of_eq (by omega) (mN hm (k := 1) (n := 122) rfl rfl).symm) (Nat.lt_of_le_of_lt (Nat.le_of_eq (mN hm (k := 1) (n := 122) rfl rfl)) (by decide)) ?_
      rw [show hI h (g 1) 40 = 8 by rw [z1]; rfl]
      refine j_callS3 dX12_sort_44 sl_X12_220 (c_in _ _ _) rfl (by decide) (by omega) (by omega) (Nat.le_of_ble_eq_true rfl) (fun v_44 u_44 p_44 => ?_)
      obtain ⟨e_44, rfl⟩ := p_44
      rw [e_44]
      clear e_44
      dsimp only [rs]
      refine j_if_ne 56 dX12_sort_47 (by decide) (fun c_47 => ?_) (fun c_47 => ?_)
      · have q1 := b2_nn.mp c_17
        have q2 := b2_nn.mp c_32
        have q3 := b2_n.mp c_47
        have qq : inSh 8 6 y x ∧ inSh 8 6 z x := (by simp only [inSh, le_i, Int32.reduceToInt] at *; omega)
        refine j_iload_n dX12_sort_56 rfl ?_
        refine j_iload_n dX12_sort_57 rfl ?_
        refine j_icmp_ge 67 dX12_sort_58 (by decide) (fun c_58 => ?_) (fun c_58 => ?_)
        · rw [soT, if_pos qq, if_neg (by simp only [le_i, lt_i] at *; omega)]
          obtain ⟨c0, hc0, hv, -⟩ := nI_ex (x := x) (n := 6) (by simp only [inSh] at qq; omega) (by simp only [inSh] at qq; omega)
          subst hv
          obtain ⟨c, rfl⟩ : ∃ a, c0 = a + 1 := ⟨c0 - 1, by simp only [inSh, nI_toInt (n := c0) (by omega)] at qq; omega⟩
          obtain ⟨a0, ha0, hv, -⟩ := nI_ex (x := y) (n := 8) (by simp only [inSh] at qq; omega) (by simp only [inSh] at qq; omega)
          subst hv
          obtain ⟨a, rfl⟩ : ∃ a, a0 = a + 1 := ⟨a0 - 1, by simp only [inSh, nI_toInt (n := a0) (by omega)] at qq; omega⟩
          obtain ⟨b0, hb0, hv, -⟩ := nI_ex (x := z) (n := 8) (by simp only [inSh] at qq; omega) (by simp only [inSh] at qq; omega)
          subst hv
          obtain ⟨b, rfl⟩ : ∃ a, b0 = a + 1 := ⟨b0 - 1, by simp only [inSh, nI_toInt (n := b0) (by omega)] at qq; omega⟩
          simp only [inSh, nI_toInt (n := a + 1) (by omega), nI_toInt (n := b + 1) (by omega), nI_toInt (n := c + 1) (by omega)] at qq
          have hab : a ≤ b := by rw [nI_leI (by omega) (by omega)] at c_58; omega
          refine j_aload_n dX12_sort_67 rfl ?_
          refine j_bipush (v := 40) dX12_sort_68 (by decide) ?_
          refine j_callV1 dX12_sort_70 vl_X12_743 (e_need40 hm (by rw [z1]; rfl) (by rw [z2]; rfl) z5 z69 z60 z64 (by rw [z1]; rfl) (by rw [z2]; rfl) (fmI z0 8 rfl) (fmI z0 65 rfl)) hm.1 rfl (by decide) (by omega) (by omega) (Nat.le_of_ble_eq_true rfl) (fun v_70 u_70 p_70 => ?_)
          obtain ⟨rfl, pk1, pk2, pk3⟩ := p_70
          have hm := pk1.1
          dsimp only [rs]
          refine j_iload_n dX12_sort_73 rfl ?_
          refine j_iload_n dX12_sort_74 rfl ?_
          refine j_isub dX12_sort_75 ?_
          refine j_iconst (v := 1) dX12_sort_76 (by decide) ?_
          refine j_iadd dX12_sort_77 ?_
          refine j_istore dX12_sort_78 (by decide) ?_
          dsimp only [st1, st2, unL, List.set]
          refine j_sipush (v := 12800) dX12_sort_80 (by decide) ?_
          refine j_bipush (v := 10) dX12_sort_83 (by decide) ?_
          refine j_iload_n dX12_sort_85 rfl ?_
          refine j_iconst (v := 1) dX12_sort_86 (by decide) ?_
          refine j_isub dX12_sort_87 ?_
          refine j_imul dX12_sort_88 ?_
          refine j_iadd dX12_sort_89 ?_
          refine j_iload_n dX12_sort_90 rfl ?_
          refine j_iadd dX12_sort_91 ?_
          refine j_iconst (v := 1) dX12_sort_92 (by decide) ?_
          refine j_isub dX12_sort_93 ?_
          refine j_istore dX12_sort_94 (by decide) ?_
          dsimp only [st1, st2, unL, List.set]
          refine j_iconst (v := 0) dX12_sort_96 (by decide) ?_
          refine j_istore dX12_sort_97 (by decide) ?_
          dsimp only [st1, st2, unL, List.set]
          refine j_lle (lv' := [some (vr (some (g 0))), some (vi (nI (c + 1))), some (vi (nI (a + 1))), some (vi (nI (b + 1))), some (vi t), some (vi (nI (b - a + 1))), some (vi (nI (12800 + 10 * a + c))), some (vi (nI 0)), none, none]) (by simp only [lle, and_true, true_and]; refine ⟨?_, ?_, ?_⟩ <;> first | rfl | (congr 2; rw [pk_sub (by omega), nI_1]; congr 1; omega) | (congr 2; rw [nI_pred, li_10, pk_mul, li_12800, nI_add, nI_add, show 12800 + 10 * a + (c + 1) = 12800 + 10 * a + c + 1 by omega, nI_pred])) ?_
          exact l_sort1 (a := a) (b := b) (c := c) (m := b - a + 1) hf (by omega) (by omega) 9 0 _ (by omega) ⟨by omega, ⟨Km_mono pk1 (fun k hk => by simp at hk ⊢; omega), pk3, pk2⟩, fun j hj => absurd hj (Nat.not_lt_zero j)⟩
        · refine j_aload_n dX12_sort_61 rfl ?_
          refine j_iconst (v := 2) dX12_sort_62 (by decide) ?_
          refine j_callV1 dX12_sort_63 vl_X12_237 (c_throwing 2 hm) hm.1 rfl (by decide) (by omega) (by omega) (Nat.le_of_ble_eq_true rfl) (fun v_63 u_63 p_63 => ?_)
          obtain ⟨e_, rfl⟩ := p_63
          rw [e_]
          clear e_
          dsimp only [rs]
          exact j_ireturn dX12_sort_66 rfl rfl ⟨rfl, hm, by rw [hI_pI, if_pos ⟨rfl, rfl⟩, soT, if_pos qq, if_pos (by simp only [le_i, lt_i] at *; omega)]⟩
      · refine j_aload_n dX12_sort_50 rfl ?_
        refine j_iconst (v := 1) dX12_sort_51 (by decide) ?_
        refine j_callV1 dX12_sort_52 vl_X12_237 (c_throwing 1 hm) hm.1 rfl (by decide) (by omega) (by omega) (Nat.le_of_ble_eq_true rfl) (fun v_52 u_52 p_52 => ?_)
        obtain ⟨e_, rfl⟩ := p_52
        rw [e_]
        clear e_
        dsimp only [rs]
        have qq : ¬ (inSh 8 6 y x ∧ inSh 8 6 z x) := fun w => by
          simp only [inSh] at w
          first | exact b2_0.mp c_17 (by simp only [inSh, le_i, Int32.reduceToInt] at *; omega) | exact b2_0.mp c_32 (by simp only [inSh, le_i, Int32.reduceToInt] at *; omega) | exact b2_0.mp (Classical.not_not.mp c_47) (by simp only [inSh, le_i, Int32.reduceToInt] at *; omega)
        exact j_ireturn dX12_sort_55 rfl rfl ⟨rfl, hm, by rw [hI_pI, if_pos ⟨rfl, rfl⟩, soT, if_neg qq]⟩

