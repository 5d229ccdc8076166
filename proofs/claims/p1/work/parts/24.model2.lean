/-! ===== the model on a fresh object ===== -/
theorem pI_same {h : Hp} {a k : Nat} {x : Int32} (e : hI h a k = x) : pI h a k x = h := by
  rw [pI_eq]
  have : upd (hI h a) k x = hI h a := by funext j; by_cases q : j = k <;> simp [upd, q, e]
  rw [this, sI_self]
def fr_0 : Nat → Int32
  | 6 => 8 | 7 => 6 | 8 => 1 | 13 => -1 | _ => 0
def fr_1 (n : Int32) : Nat → Int32
  | 0 => n | 40 => n | _ => 0
def fr_3 (w n : Nat) : Nat → Int32 := fun j => if j < n then nI j else if w * 40 ≤ j ∧ j < w * 40 + n then nI (j - w * 40) else 0
def fr_11 : Nat → Int32
  | 0 => 0 | _ => -1
def FM (h : Hp) (g : Nat → Nat) : Prop := MW h g ∧ hI h (g 0) = fr_0 ∧ hI h (g 1) = fr_1 8 ∧ hI h (g 2) = fr_1 6 ∧ hI h (g 3) = fr_3 32 8 ∧ hI h (g 4) = fr_3 10 6 ∧ hI h (g 5) = (fun _ => 0) ∧ hI h (g 9) 0 = -1 ∧ hI h (g 10) 0 = -1 ∧ (∀ j, j < 6 → hI h (g 11) j = fr_11 j) ∧ hI h (g 64) = (fun _ => 0)
theorem fmI {h : Hp} {g : Nat → Nat} (z0 : hI h (g 0) = fr_0) (k : Nat) {v : Int32} (hv : fr_0 k = v) : hI h (g 0) k = v := by rw [z0]; exact hv
theorem brM {h : Hp} {g : Nat → Nat} (z11 : ∀ j, j < 6 → hI h (g 11) j = fr_11 j) {x : Int32} (hx : (0 : Int32) ≤ x ∧ x ≤ 5) : ∃ b : Nat, b < 6 ∧ x = nI b ∧ hI h (g 11) b = if b = 0 then 0 else -1 := by
  simp only [le_i, Int32.reduceToInt] at hx
  obtain ⟨b, hb, rfl, -⟩ := nI_ex (n := 5) hx.1 hx.2
  refine ⟨b, by omega, rfl, ?_⟩
  rw [z11 b (by omega)]
  match b with
  | 0 => rfl
  | b + 1 => rfl
/-- an answer of the model, with what it threw -/
abbrev an (g : Nat → Nat) (r th : Int32) : Option Sv → Hp → Prop := fun v u => v = some (vi r) ∧ MW u g ∧ hI u (g 0) 0 = th
set_option maxRecDepth 20000 in
theorem e_end {h : Hp} {g : Nat → Nat} (x : Int32) (hf : FM h g) : Con mX12_end 2 0 0 [vr (some (g 0)), vi x] h (fun v u => v = some (vi (b2 (0 ≤ x ∧ x ≤ 0)))) := by
  obtain ⟨hm, z0, z1, z2, z3, z4, z5, z9, z10, z11, z64⟩ := id hf
  refine con_of rfl (Nat.le_of_ble_eq_true rfl) (by decide) ?_
  show J mX12_end 2 0 0 _ 0 [some (vr (some (g 0))), some (vi x), none] [] h
  refine j_aload_n dX12_end_0 rfl ?_
  refine j_iconst (v := 0) dX12_end_1 (by decide) ?_
  refine j_putI dX12_end_2 fl_X12_202 rfl rfl rfl hm.1 ?_
  rw [pI_same (fmI z0 0 (v := 0) rfl)]
  refine j_iload_n dX12_end_5 rfl ?_
  refine j_iconst (v := 0) dX12_end_6 (by decide) ?_
  refine j_aload_n dX12_end_7 rfl ?_
  refine j_getI dX12_end_8 fl_X12_258 rfl hm.1 ?_
  rw [fmI z0 40 (v := 0) rfl]
  refine j_callS3 dX12_end_11 sl_X12_220 (c_in _ _ _) rfl (by decide) (by omega) (by omega) (Nat.le_of_ble_eq_true rfl) (fun v_11 u_11 p_11 => ?_)
  obtain ⟨e_11, rfl⟩ := p_11
  rw [e_11]
  clear e_11
  dsimp only [rs]
  refine j_istore_n dX12_end_14 (by decide) ?_
  dsimp only [st1, st2, unL, List.set]
  refine j_iload_n dX12_end_15 rfl ?_
  refine j_if_eq 24 dX12_end_16 (by decide) (fun c_16 => ?_) (fun c_16 => ?_)
  · refine j_iload_n dX12_end_24 rfl ?_
    exact j_ireturn dX12_end_25 rfl b2_nar (rfl)
  · refine j_aload_n dX12_end_19 rfl ?_
    refine j_iload_n dX12_end_20 rfl ?_
    refine j_putI dX12_end_21 fl_X12_258 rfl rfl rfl hm.1 ?_
    refine j_iload_n dX12_end_24 rfl ?_
    exact j_ireturn dX12_end_25 rfl b2_nar (rfl)

set_option maxRecDepth 20000 in
theorem e_fault {h : Hp} {g : Nat → Nat} (x : Int32) (hf : FM h g) : Con mX12_fault 1 0 0 [vr (some (g 0)), vi x] h (fun v u => v = some (vi (if x = 0 then 0 else if x = 1 then 0 else -1))) := by
  obtain ⟨hm, z0, z1, z2, z3, z4, z5, z9, z10, z11, z64⟩ := id hf
  refine con_of rfl (Nat.le_of_ble_eq_true rfl) (by decide) ?_
  show J mX12_fault 1 0 0 _ 0 [some (vr (some (g 0))), some (vi x)] [] h
  refine j_aload_n dX12_fault_0 rfl ?_
  refine j_iconst (v := 0) dX12_fault_1 (by decide) ?_
  refine j_putI dX12_fault_2 fl_X12_202 rfl rfl rfl hm.1 ?_
  rw [pI_same (fmI z0 0 (v := 0) rfl)]
  refine j_iload_n dX12_fault_5 rfl ?_
  refine j_if_ne 16 dX12_fault_6 (by decide) (fun c_6 => ?_) (fun c_6 => ?_)
  · refine j_iload_n dX12_fault_16 rfl ?_
    refine j_iconst (v := 1) dX12_fault_17 (by decide) ?_
    refine j_icmp_ne 28 dX12_fault_18 (by decide) (fun c_18 => ?_) (fun c_18 => ?_)
    · refine j_iconst (v := -1) dX12_fault_28 (by decide) ?_
      exact j_ireturn dX12_fault_29 rfl rfl (by simp_all [nx])
    · refine j_aload_n dX12_fault_21 rfl ?_
      refine j_getI dX12_fault_22 fl_X12_280 rfl hm.1 ?_
      rw [fmI z0 42 (v := 0) rfl]
      refine j_goto 29 dX12_fault_25 (by decide) ?_
      exact j_ireturn dX12_fault_29 rfl rfl (by simp_all [nx])
  · refine j_aload_n dX12_fault_9 rfl ?_
    refine j_getI dX12_fault_10 fl_X12_277 rfl hm.1 ?_
    rw [fmI z0 41 (v := 0) rfl]
    refine j_goto 29 dX12_fault_13 (by decide) ?_
    exact j_ireturn dX12_fault_29 rfl rfl (by simp_all [nx])

set_option maxRecDepth 20000 in
theorem e_undo {h : Hp} {g : Nat → Nat} (hf : FM h g) : Con mX12_undo 2 0 0 [vr (some (g 0))] h (an g 0 1) := by
  obtain ⟨hm, z0, z1, z2, z3, z4, z5, z9, z10, z11, z64⟩ := id hf
  refine con_of rfl (Nat.le_of_ble_eq_true rfl) (by decide) ?_
  show J mX12_undo 2 0 0 _ 0 [some (vr (some (g 0)))] [] h
  refine j_aload_n dX12_undo_0 rfl ?_
  refine j_iconst (v := 0) dX12_undo_1 (by decide) ?_
  refine j_putI dX12_undo_2 fl_X12_202 rfl rfl rfl hm.1 ?_
  rw [pI_same (fmI z0 0 (v := 0) rfl)]
  refine j_aload_n dX12_undo_5 rfl ?_
  refine j_getI dX12_undo_6 fl_X12_227 rfl hm.1 ?_
  rw [fmI z0 16 (v := 0) rfl]
  refine j_if_ne 18 dX12_undo_9 (by decide) (fun c_9 => ?_) (fun c_9 => ?_)
  · exact absurd c_9 (by decide)
  · refine j_aload_n dX12_undo_12 rfl ?_
    refine j_iconst (v := 1) dX12_undo_13 (by decide) ?_
    refine j_callV1 dX12_undo_14 vl_X12_237 (c_throwing 1 hm) hm.1 rfl (by decide) (by omega) (by omega) (Nat.le_of_ble_eq_true rfl) (fun v_14 u_14 p_14 => ?_)
    obtain ⟨e_, rfl⟩ := p_14
    rw [e_]
    clear e_
    dsimp only [rs]
    exact j_ireturn dX12_undo_17 rfl rfl (⟨rfl, hm, by rw [hI_pI, if_pos ⟨rfl, rfl⟩]⟩)

set_option maxRecDepth 20000 in
theorem e_redo {h : Hp} {g : Nat → Nat} (hf : FM h g) : Con mX12_redo 2 0 0 [vr (some (g 0))] h (an g 0 1) := by
  obtain ⟨hm, z0, z1, z2, z3, z4, z5, z9, z10, z11, z64⟩ := id hf
  refine con_of rfl (Nat.le_of_ble_eq_true rfl) (by decide) ?_
  show J mX12_redo 2 0 0 _ 0 [some (vr (some (g 0)))] [] h
  refine j_aload_n dX12_redo_0 rfl ?_
  refine j_iconst (v := 0) dX12_redo_1 (by decide) ?_
  refine j_putI dX12_redo_2 fl_X12_202 rfl rfl rfl hm.1 ?_
  rw [pI_same (fmI z0 0 (v := 0) rfl)]
  refine j_aload_n dX12_redo_5 rfl ?_
  refine j_getI dX12_redo_6 fl_X12_230 rfl hm.1 ?_
  rw [fmI z0 17 (v := 0) rfl]
  refine j_if_ne 18 dX12_redo_9 (by decide) (fun c_9 => ?_) (fun c_9 => ?_)
  · exact absurd c_9 (by decide)
  · refine j_aload_n dX12_redo_12 rfl ?_
    refine j_iconst (v := 1) dX12_redo_13 (by decide) ?_
    refine j_callV1 dX12_redo_14 vl_X12_237 (c_throwing 1 hm) hm.1 rfl (by decide) (by omega) (by omega) (Nat.le_of_ble_eq_true rfl) (fun v_14 u_14 p_14 => ?_)
    obtain ⟨e_, rfl⟩ := p_14
    rw [e_]
    clear e_
    dsimp only [rs]
    exact j_ireturn dX12_redo_17 rfl rfl (⟨rfl, hm, by rw [hI_pI, if_pos ⟨rfl, rfl⟩]⟩)

set_option maxRecDepth 20000 in
theorem e_pick {h : Hp} {g : Nat → Nat} (x : Int32) (hf : FM h g) : Con mX12_pick 2 0 0 [vr (some (g 0)), vi x] h (an g 0 1) := by
  obtain ⟨hm, z0, z1, z2, z3, z4, z5, z9, z10, z11, z64⟩ := id hf
  refine con_of rfl (Nat.le_of_ble_eq_true rfl) (by decide) ?_
  show J mX12_pick 2 0 0 _ 0 [some (vr (some (g 0))), some (vi x), none] [] h
  refine j_aload_n dX12_pick_0 rfl ?_
  refine j_iconst (v := 0) dX12_pick_1 (by decide) ?_
  refine j_putI dX12_pick_2 fl_X12_202 rfl rfl rfl hm.1 ?_
  rw [pI_same (fmI z0 0 (v := 0) rfl)]
  refine j_iload_n dX12_pick_5 rfl ?_
  refine j_iconst (v := 1) dX12_pick_6 (by decide) ?_
  refine j_aload_n dX12_pick_7 rfl ?_
  refine j_getI dX12_pick_8 fl_X12_33 rfl hm.1 ?_
  rw [fmI z0 8 (v := 1) rfl]
  refine j_iconst (v := 1) dX12_pick_11 (by decide) ?_
  refine j_isub dX12_pick_12 ?_
  refine j_callS3 dX12_pick_13 sl_X12_220 (c_in _ _ _) rfl (by decide) (by omega) (by omega) (Nat.le_of_ble_eq_true rfl) (fun v_13 u_13 p_13 => ?_)
  obtain ⟨e_13, rfl⟩ := p_13
  rw [e_13]
  clear e_13
  dsimp only [rs]
  refine j_if_ne 25 dX12_pick_16 (by decide) (fun c_16 => ?_) (fun c_16 => ?_)
  · have q := b2_n.mp c_16
    simp only [le_i, Int32.reduceToInt, show ((1 : Int32) - 1).toInt = 0 from rfl] at q
    omega
  · refine j_aload_n dX12_pick_19 rfl ?_
    refine j_iconst (v := 1) dX12_pick_20 (by decide) ?_
    refine j_callV1 dX12_pick_21 vl_X12_237 (c_throwing 1 hm) hm.1 rfl (by decide) (by omega) (by omega) (Nat.le_of_ble_eq_true rfl) (fun v_21 u_21 p_21 => ?_)
    obtain ⟨e_, rfl⟩ := p_21
    rw [e_]
    clear e_
    dsimp only [rs]
    exact j_ireturn dX12_pick_24 rfl rfl (⟨rfl, hm, by rw [hI_pI, if_pos ⟨rfl, rfl⟩]⟩)

set_option maxRecDepth 20000 in
theorem e_choose {h : Hp} {g : Nat → Nat} (x y : Int32) (hf : FM h g) : Con mX12_choose 2 0 0 [vr (some (g 0)), vi x, vi y] h (an g 0 1) := by
  obtain ⟨hm, z0, z1, z2, z3, z4, z5, z9, z10, z11, z64⟩ := id hf
  refine con_of rfl (Nat.le_of_ble_eq_true rfl) (by decide) ?_
  show J mX12_choose 2 0 0 _ 0 [some (vr (some (g 0))), some (vi x), some (vi y), none, none, none, none, none, none] [] h
  refine j_aload_n dX12_choose_0 rfl ?_
  refine j_iconst (v := 0) dX12_choose_1 (by decide) ?_
  refine j_putI dX12_choose_2 fl_X12_202 rfl rfl rfl hm.1 ?_
  rw [pI_same (fmI z0 0 (v := 0) rfl)]
  refine j_iload_n dX12_choose_5 rfl ?_
  refine j_iconst (v := 0) dX12_choose_6 (by decide) ?_
  refine j_aload_n dX12_choose_7 rfl ?_
  refine j_getI dX12_choose_8 fl_X12_868 rfl hm.1 ?_
  rw [fmI z0 98 (v := 0) rfl]
  refine j_iconst (v := 1) dX12_choose_11 (by decide) ?_
  refine j_isub dX12_choose_12 ?_
  refine j_callS3 dX12_choose_13 sl_X12_220 (c_in _ _ _) rfl (by decide) (by omega) (by omega) (Nat.le_of_ble_eq_true rfl) (fun v_13 u_13 p_13 => ?_)
  obtain ⟨e_13, rfl⟩ := p_13
  rw [e_13]
  clear e_13
  dsimp only [rs]
  refine j_if_ne 25 dX12_choose_16 (by decide) (fun c_16 => ?_) (fun c_16 => ?_)
  · have q := b2_n.mp c_16
    simp only [le_i, Int32.reduceToInt, show ((0 : Int32) - 1).toInt = -1 from rfl] at q
    omega
  · refine j_aload_n dX12_choose_19 rfl ?_
    refine j_iconst (v := 1) dX12_choose_20 (by decide) ?_
    refine j_callV1 dX12_choose_21 vl_X12_237 (c_throwing 1 hm) hm.1 rfl (by decide) (by omega) (by omega) (Nat.le_of_ble_eq_true rfl) (fun v_21 u_21 p_21 => ?_)
    obtain ⟨e_, rfl⟩ := p_21
    rw [e_]
    clear e_
    dsimp only [rs]
    exact j_ireturn dX12_choose_24 rfl rfl (⟨rfl, hm, by rw [hI_pI, if_pos ⟨rfl, rfl⟩]⟩)

set_option maxRecDepth 20000 in
theorem e_conflict {h : Hp} {g : Nat → Nat} (x y : Int32) (hf : FM h g) : Con mX12_conflict 2 0 0 [vr (some (g 0)), vi x, vi y] h (fun v u => v = some (vi (-1))) := by
  obtain ⟨hm, z0, z1, z2, z3, z4, z5, z9, z10, z11, z64⟩ := id hf
  refine con_of rfl (Nat.le_of_ble_eq_true rfl) (by decide) ?_
  show J mX12_conflict 2 0 0 _ 0 [some (vr (some (g 0))), some (vi x), some (vi y)] [] h
  refine j_aload_n dX12_conflict_0 rfl ?_
  refine j_iconst (v := 0) dX12_conflict_1 (by decide) ?_
  refine j_putI dX12_conflict_2 fl_X12_202 rfl rfl rfl hm.1 ?_
  rw [pI_same (fmI z0 0 (v := 0) rfl)]
  refine j_iload_n dX12_conflict_5 rfl ?_
  refine j_iconst (v := 0) dX12_conflict_6 (by decide) ?_
  refine j_aload_n dX12_conflict_7 rfl ?_
  refine j_getI dX12_conflict_8 fl_X12_868 rfl hm.1 ?_
  rw [fmI z0 98 (v := 0) rfl]
  refine j_iconst (v := 1) dX12_conflict_11 (by decide) ?_
  refine j_isub dX12_conflict_12 ?_
  refine j_callS3 dX12_conflict_13 sl_X12_220 (c_in _ _ _) rfl (by decide) (by omega) (by omega) (Nat.le_of_ble_eq_true rfl) (fun v_13 u_13 p_13 => ?_)
  obtain ⟨e_13, rfl⟩ := p_13
  rw [e_13]
  clear e_13
  dsimp only [rs]
  refine j_if_ne 21 dX12_conflict_16 (by decide) (fun c_16 => ?_) (fun c_16 => ?_)
  · have q := b2_n.mp c_16
    simp only [le_i, Int32.reduceToInt, show ((0 : Int32) - 1).toInt = -1 from rfl] at q
    omega
  · refine j_iconst (v := -1) dX12_conflict_19 (by decide) ?_
    exact j_ireturn dX12_conflict_20 rfl rfl (rfl)

set_option maxRecDepth 20000 in
theorem e_difference {h : Hp} {g : Nat → Nat} (x y : Int32) (hf : FM h g) : Con mX12_difference 2 0 0 [vr (some (g 0)), vi x, vi y] h (fun v u => v = some (vi (-1))) := by
  obtain ⟨hm, z0, z1, z2, z3, z4, z5, z9, z10, z11, z64⟩ := id hf
  refine con_of rfl (Nat.le_of_ble_eq_true rfl) (by decide) ?_
  show J mX12_difference 2 0 0 _ 0 [some (vr (some (g 0))), some (vi x), some (vi y)] [] h
  refine j_aload_n dX12_difference_0 rfl ?_
  refine j_iconst (v := 0) dX12_difference_1 (by decide) ?_
  refine j_putI dX12_difference_2 fl_X12_202 rfl rfl rfl hm.1 ?_
  rw [pI_same (fmI z0 0 (v := 0) rfl)]
  refine j_iload_n dX12_difference_5 rfl ?_
  refine j_iconst (v := 0) dX12_difference_6 (by decide) ?_
  refine j_aload_n dX12_difference_7 rfl ?_
  refine j_getI dX12_difference_8 fl_X12_939 rfl hm.1 ?_
  rw [fmI z0 104 (v := 0) rfl]
  refine j_iconst (v := 1) dX12_difference_11 (by decide) ?_
  refine j_isub dX12_difference_12 ?_
  refine j_callS3 dX12_difference_13 sl_X12_220 (c_in _ _ _) rfl (by decide) (by omega) (by omega) (Nat.le_of_ble_eq_true rfl) (fun v_13 u_13 p_13 => ?_)
  obtain ⟨e_13, rfl⟩ := p_13
  rw [e_13]
  clear e_13
  dsimp only [rs]
  refine j_if_ne 21 dX12_difference_16 (by decide) (fun c_16 => ?_) (fun c_16 => ?_)
  · have q := b2_n.mp c_16
    simp only [le_i, Int32.reduceToInt, show ((0 : Int32) - 1).toInt = -1 from rfl] at q
    omega
  · refine j_iconst (v := -1) dX12_difference_19 (by decide) ?_
    exact j_ireturn dX12_difference_20 rfl rfl (rfl)

set_option maxRecDepth 20000 in
theorem e_unsettled {h : Hp} {g : Nat → Nat} (hf : FM h g) : Con mX12_unsettled 1 0 0 [vr (some (g 0))] h (fun v u => u = h ∧ v = some (vi 0)) := by
  obtain ⟨hm, z0, z1, z2, z3, z4, z5, z9, z10, z11, z64⟩ := id hf
  refine con_of rfl (Nat.le_of_ble_eq_true rfl) (by decide) ?_
  show J mX12_unsettled 1 0 0 _ 0 [some (vr (some (g 0))), none, none] [] h
  refine j_iconst (v := 0) dX12_unsettled_0 (by decide) ?_
  refine j_istore_n dX12_unsettled_1 (by decide) ?_
  dsimp only [st1, st2, unL, List.set]
  refine j_iconst (v := 0) dX12_unsettled_2 (by decide) ?_
  refine j_istore_n dX12_unsettled_3 (by decide) ?_
  dsimp only [st1, st2, unL, List.set]
  refine j_iload_n dX12_unsettled_4 rfl ?_
  refine j_aload_n dX12_unsettled_5 rfl ?_
  refine j_getI dX12_unsettled_6 fl_X12_868 rfl hm.1 ?_
  rw [fmI z0 98 (v := 0) rfl]
  refine j_icmp_ge 35 dX12_unsettled_9 (by decide) (fun c_9 => ?_) (fun c_9 => ?_)
  · refine j_iload_n dX12_unsettled_35 rfl ?_
    exact j_ireturn dX12_unsettled_36 rfl rfl (⟨rfl, rfl⟩)
  · exact absurd (by decide) c_9

set_option maxRecDepth 20000 in
theorem e_bars {h : Hp} {g : Nat → Nat} (x : Int32) (hf : FM h g) : Con mX12_bars 2 0 0 [vr (some (g 0)), vi x] h (fun v u => u = h ∧ v = some (vi 0)) := by
  obtain ⟨hm, z0, z1, z2, z3, z4, z5, z9, z10, z11, z64⟩ := id hf
  refine con_of rfl (Nat.le_of_ble_eq_true rfl) (by decide) ?_
  show J mX12_bars 2 0 0 _ 0 [some (vr (some (g 0))), some (vi x)] [] h
  refine j_aload_n dX12_bars_0 rfl ?_
  refine j_getI dX12_bars_1 fl_X12_927 rfl hm.1 ?_
  rw [fmI z0 14 (v := 0) rfl]
  refine j_sipush (v := 200) dX12_bars_4 (by decide) ?_
  refine j_icmp_ne 12 dX12_bars_7 (by decide) (fun c_7 => ?_) (fun c_7 => ?_)
  · refine j_aload_n dX12_bars_12 rfl ?_
    refine j_getI dX12_bars_13 fl_X12_45 rfl hm.1 ?_
    rw [fmI z0 13 (v := -1) rfl]
    refine j_if_ge 26 dX12_bars_16 (by decide) (fun c_16 => ?_) (fun c_16 => ?_)
    · exact absurd c_16 (by decide)
    · refine j_aload_n dX12_bars_19 rfl ?_
      refine j_callV0 dX12_bars_20 vl_X12_871 (e_unsettled hf) hm.1 rfl (by decide) (by omega) (by omega) (Nat.le_of_ble_eq_true rfl) (fun v_20 u_20 p_20 => ?_)
      obtain ⟨e_20, rfl⟩ := p_20
      rw [e_20]
      clear e_20
      dsimp only [rs]
      refine j_if_le 32 dX12_bars_23 (by decide) (fun c_23 => ?_) (fun c_23 => ?_)
      · refine j_iconst (v := 0) dX12_bars_32 (by decide) ?_
        exact j_ireturn dX12_bars_33 rfl rfl (⟨rfl, rfl⟩)
      · first | exact absurd c_16 (by decide) | exact absurd (by decide) c_23
  · exact absurd (by decide) c_7

set_option maxRecDepth 20000 in
theorem e_branch {h : Hp} {g : Nat → Nat} (x : Int32) (hf : FM h g) : Con mX12_branch 2 0 0 [vr (some (g 0)), vi x] h (an g 0 (if 0 ≤ x ∧ x ≤ 5 then (if x = 0 then 2 else 0) else 1)) := by
  obtain ⟨hm, z0, z1, z2, z3, z4, z5, z9, z10, z11, z64⟩ := id hf
  refine con_of rfl (Nat.le_of_ble_eq_true rfl) (by decide) ?_
  show J mX12_branch 2 0 0 _ 0 [some (vr (some (g 0))), some (vi x)] [] h
  refine j_aload_n dX12_branch_0 rfl ?_
  refine j_iconst (v := 0) dX12_branch_1 (by decide) ?_
  refine j_putI dX12_branch_2 fl_X12_202 rfl rfl rfl hm.1 ?_
  rw [pI_same (fmI z0 0 (v := 0) rfl)]
  refine j_iload_n dX12_branch_5 rfl ?_
  refine j_iconst (v := 0) dX12_branch_6 (by decide) ?_
  refine j_iconst (v := 5) dX12_branch_7 (by decide) ?_
  refine j_callS3 dX12_branch_8 sl_X12_220 (c_in _ _ _) rfl (by decide) (by omega) (by omega) (Nat.le_of_ble_eq_true rfl) (fun v_8 u_8 p_8 => ?_)
  obtain ⟨e_8, rfl⟩ := p_8
  rw [e_8]
  clear e_8
  dsimp only [rs]
  refine j_if_ne 20 dX12_branch_11 (by decide) (fun c_11 => ?_) (fun c_11 => ?_)
  · have q := b2_n.mp c_11
    obtain ⟨b, hb, hx, hv⟩ := brM z11 q
    subst hx
    refine j_aload_n dX12_branch_20 rfl ?_
    refine j_getR dX12_branch_21 fl_X12_42 rfl hm.1 (mO hm rfl) ?_
    refine j_iload_n dX12_branch_24 rfl ?_
    refine j_iald _ dX12_branch_25 (mK hm rfl) (by first | with_reducible rfl | (simp (disch := omega) only [li_1, li_2, li_3, li_4, li_5, li_6, li_7, li_8, li_10, li_20, li_24, li_32, li_40, li_64, li_320, li_39, li_41, li_81, li_121, li_100000, pk_sub, pk_mul, nI_add, inc1, dec1]; with_reducible rfl)) (Nat.lt_of_lt_of_eq (by omega) (mN hm (k := 11) (n := 6) rfl rfl).symm) (Nat.lt_of_le_of_lt (Nat.le_of_eq (mN hm (k := 11) (n := 6) rfl rfl)) (by decide)) ?_
    rw [hv]
    refine j_if_lt 35 dX12_branch_26 (by decide) (fun c_26 => ?_) (fun c_26 => ?_)
    · refine j_aload_n dX12_branch_35 rfl ?_
      refine j_getR dX12_branch_36 fl_X12_42 rfl hm.1 (mO hm rfl) ?_
      refine j_iload_n dX12_branch_39 rfl ?_
      refine j_aload_n dX12_branch_40 rfl ?_
      refine j_callV0 dX12_branch_41 vl_X12_860 (c_head12 0 (fmI z0 12 rfl) (by decide) hm) hm.1 rfl (by decide) (by omega) (by omega) (Nat.le_of_ble_eq_true rfl) (fun v_41 u_41 p_41 => ?_)
      obtain ⟨e_41, rfl⟩ := p_41
      rw [e_41]
      clear e_41
      dsimp only [rs]
      refine j_iast _ dX12_branch_44 (mK hm rfl) (by first | with_reducible rfl | (simp (disch := omega) only [li_1, li_2, li_3, li_4, li_5, li_6, li_7, li_8, li_10, li_20, li_24, li_32, li_40, li_64, li_320, li_39, li_41, li_81, li_121, li_100000, pk_sub, pk_mul, nI_add, inc1, dec1]; with_reducible rfl)) (Nat.lt_of_lt_of_eq (by omega) (mN hm (k := 11) (n := 6) rfl rfl).symm) (Nat.lt_of_le_of_lt (Nat.le_of_eq (mN hm (k := 11) (n := 6) rfl rfl)) (by decide)) ?_
      refine j_aload_n dX12_branch_45 rfl ?_
      refine j_callV0 dX12_branch_46 vl_X12_860 (c_head12 (h := pI h (g 11) b (hI h (g 11) 0)) 0 (by rw [hI_pI, if_neg (fun w => mNe hm (i := 0) (j := 11) rfl rfl rfl w.1)]; exact fmI z0 12 rfl) (by decide) hm) hm.1 rfl (by decide) (by omega) (by omega) (Nat.le_of_ble_eq_true rfl) (fun v_46 u_46 p_46 => ?_)
      obtain ⟨e_, rfl⟩ := p_46
      rw [e_]
      clear e_
      dsimp only [rs]
      have hb0 : ¬ b = 0 := fun z => by rw [if_pos z] at c_26; exact absurd c_26 (by decide)
      have hx0 : ¬ nI b = 0 := by rw [li_0, nI_eq (by omega) (by omega)]; exact hb0
      have e0 : hI h (g 11) 0 = 0 := z11 0 (by decide)
      have e1 : hI (pI h (g 11) b (hI h (g 11) 0)) (g 11) 0 = 0 := by rw [hI_pI, if_neg (by omega)]; exact e0
      rw [e1]
      exact j_ireturn dX12_branch_49 rfl rfl ⟨rfl, hm, by rw [if_pos q, if_neg hx0, hI_pI, if_neg (fun w => mNe hm (i := 0) (j := 11) rfl rfl rfl w.1)]; exact fmI z0 0 rfl⟩
    · refine j_aload_n dX12_branch_29 rfl ?_
      refine j_iconst (v := 2) dX12_branch_30 (by decide) ?_
      refine j_callV1 dX12_branch_31 vl_X12_237 (c_throwing 2 hm) hm.1 rfl (by decide) (by omega) (by omega) (Nat.le_of_ble_eq_true rfl) (fun v_31 u_31 p_31 => ?_)
      obtain ⟨e_, rfl⟩ := p_31
      rw [e_]
      clear e_
      dsimp only [rs]
      have hb0 : b = 0 := Classical.byContradiction fun z => by rw [if_neg z] at c_26; exact absurd (by decide) c_26
      subst hb0
      exact j_ireturn dX12_branch_34 rfl rfl ⟨rfl, hm, by rw [hI_pI, if_pos ⟨rfl, rfl⟩, if_pos q]; rfl⟩
  · refine j_aload_n dX12_branch_14 rfl ?_
    refine j_iconst (v := 1) dX12_branch_15 (by decide) ?_
    refine j_callV1 dX12_branch_16 vl_X12_237 (c_throwing 1 hm) hm.1 rfl (by decide) (by omega) (by omega) (Nat.le_of_ble_eq_true rfl) (fun v_16 u_16 p_16 => ?_)
    obtain ⟨e_, rfl⟩ := p_16
    rw [e_]
    clear e_
    dsimp only [rs]
    exact j_ireturn dX12_branch_19 rfl rfl ⟨rfl, hm, by rw [hI_pI, if_pos ⟨rfl, rfl⟩, if_neg (b2_0.mp (Classical.not_not.mp c_11))]⟩

