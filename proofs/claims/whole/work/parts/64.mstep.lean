/-! ===== in general: the sheets of the reference, its steps ===== -/
/-- slot s of the reference: how many rows and columns, their numbers, its cells -/
def MV (h : Hp) (g : Nat → Nat) (s : Nat) : Int32 × Int32 × (Nat → Int32) × (Nat → Int32) × (Nat → Int32) := (hI h (g 1) s, hI h (g 2) s, (fun k => if k < 32 then hI h (g 3) (32 * s + k) else 0), (fun k => if k < 10 then hI h (g 4) (10 * s + k) else 0), fun k => if k < 320 then hI h (g 5) (320 * s + k) else 0)
theorem cpI_in {f : Nat → Int32} {s t n k : Nat} (hk : k < n) : cpI f s t n (t + k) = f (s + k) := by
  rw [cpI, if_pos (by omega)]; congr 1; omega
theorem cpI_out {f : Nat → Int32} {s t n j : Nat} (hj : ¬ (t ≤ j ∧ j < t + n)) : cpI f s t n j = f j := by
  rw [cpI, if_neg hj]
theorem cps_1 {h h0 : Hp} {g : Nat → Nat} (hm : MW h0 g) (s t k : Nat) : hI (cps h g s t) (g 1) k = if k = t then hI h (g 1) s else hI h (g 1) k := by
  rw [cps, hI_sI, if_neg (mNe hm (i := 1) (j := 5) rfl rfl rfl), cs5, hI_sI, if_neg (mNe hm (i := 1) (j := 4) rfl rfl rfl), cs4, hI_sI, if_neg (mNe hm (i := 1) (j := 3) rfl rfl rfl), cs3, hI_pI, if_neg (fun z => (mNe hm (i := 1) (j := 2) rfl rfl rfl) z.1), hI_pI]
  by_cases q : k = t
  · rw [if_pos ⟨rfl, q⟩, if_pos q]
  · rw [if_neg (fun z => q z.2), if_neg q]
theorem cps_2 {h h0 : Hp} {g : Nat → Nat} (hm : MW h0 g) (s t k : Nat) : hI (cps h g s t) (g 2) k = if k = t then hI h (g 2) s else hI h (g 2) k := by
  rw [cps, hI_sI, if_neg (mNe hm (i := 2) (j := 5) rfl rfl rfl), cs5, hI_sI, if_neg (mNe hm (i := 2) (j := 4) rfl rfl rfl), cs4, hI_sI, if_neg (mNe hm (i := 2) (j := 3) rfl rfl rfl), cs3, hI_pI]
  by_cases q : k = t
  · rw [if_pos ⟨rfl, q⟩, if_pos q]
  · rw [if_neg (fun z => q z.2), if_neg q, hI_pI, if_neg (fun z => (mNe hm (i := 2) (j := 1) rfl rfl rfl) z.1)]
theorem cps_3 {h h0 : Hp} {g : Nat → Nat} (hm : MW h0 g) (s t : Nat) : hI (cps h g s t) (g 3) = cpI (hI h (g 3)) (32 * s) (32 * t) 32 := by
  rw [cps, hI_sI, if_neg (mNe hm (i := 3) (j := 5) rfl rfl rfl), cs5, hI_sI, if_neg (mNe hm (i := 3) (j := 4) rfl rfl rfl), cs4, hI_sI1]
theorem cps_4 {h h0 : Hp} {g : Nat → Nat} (hm : MW h0 g) (s t : Nat) : hI (cps h g s t) (g 4) = cpI (hI h (g 4)) (10 * s) (10 * t) 10 := by
  rw [cps, hI_sI, if_neg (mNe hm (i := 4) (j := 5) rfl rfl rfl), cs5, hI_sI1]
theorem cps_5 {h : Hp} {g : Nat → Nat} (s t : Nat) : hI (cps h g s t) (g 5) = cpI (hI h (g 5)) (320 * s) (320 * t) 320 := by
  rw [cps, hI_sI1]
theorem cps_0 {h h0 : Hp} {g : Nat → Nat} (hm : MW h0 g) {s t j : Nat} (hj : (j == 0 || mkl.getD j 0 != 0) = true) (h6 : j = 0 ∨ 6 ≤ j) : hI (cps h g s t) (g j) = hI h (g j) := by
  have e : ∀ i, 1 ≤ i → i < 6 → (i == 0 || mkl.getD i 0 != 0) = true → g j ≠ g i := fun i h1 hi hv => mNe hm hj hv (by simp; omega)
  funext k
  rw [cps, hI_sI, if_neg (e 5 (by decide) (by decide) rfl), cs5, hI_sI, if_neg (e 4 (by decide) (by decide) rfl), cs4, hI_sI, if_neg (e 3 (by decide) (by decide) rfl), cs3, hI_pI, if_neg (fun z => e 2 (by decide) (by decide) rfl z.1), hI_pI, if_neg (fun z => e 1 (by decide) (by decide) rfl z.1)]
theorem MV_cps {h h0 : Hp} {g : Nat → Nat} (hm : MW h0 g) (s t : Nat) : MV (cps h g s t) g t = MV h g s := by
  unfold MV
  rw [cps_1 hm, cps_2 hm, cps_3 hm, cps_4 hm, cps_5, if_pos rfl, if_pos rfl]
  congr 2
  congr 1
  · funext k; by_cases q : k < 32
    · rw [if_pos q, if_pos q, cpI_in q]
    · rw [if_neg q, if_neg q]
  · congr 1
    · funext k; by_cases q : k < 10
      · rw [if_pos q, if_pos q, cpI_in q]
      · rw [if_neg q, if_neg q]
    · funext k; by_cases q : k < 320
      · rw [if_pos q, if_pos q, cpI_in q]
      · rw [if_neg q, if_neg q]
theorem MV_cpo {h h0 : Hp} {g : Nat → Nat} (hm : MW h0 g) {s t r : Nat} (hr : r ≠ t) : MV (cps h g s t) g r = MV h g r := by
  unfold MV
  rw [cps_1 hm, cps_2 hm, cps_3 hm, cps_4 hm, cps_5, if_neg hr, if_neg hr]
  congr 2
  congr 1
  · funext k; by_cases q : k < 32
    · rw [if_pos q, if_pos q, cpI_out (by omega)]
    · rw [if_neg q, if_neg q]
  · congr 1
    · funext k; by_cases q : k < 10
      · rw [if_pos q, if_pos q, cpI_out (by omega)]
      · rw [if_neg q, if_neg q]
    · funext k; by_cases q : k < 320
      · rw [if_pos q, if_pos q, cpI_out (by omega)]
      · rw [if_neg q, if_neg q]
theorem MV_f {h h0 : Hp} {g : Nat → Nat} (hm : MW h0 g) {k : Nat} {x : Int32} (r : Nat) : MV (pI h (g 0) k x) g r = MV h g r := by
  have e : ∀ i, 1 ≤ i → i < 6 → (i == 0 || mkl.getD i 0 != 0) = true → hI (pI h (g 0) k x) (g i) = hI h (g i) := fun i h1 hi hv => by
    funext j; rw [hI_pI, if_neg (fun z => mNe hm hv rfl (by simp; omega) z.1)]
  unfold MV
  rw [e 1 (by decide) (by decide) rfl, e 2 (by decide) (by decide) rfl, e 3 (by decide) (by decide) rfl, e 4 (by decide) (by decide) rfl, e 5 (by decide) (by decide) rfl]
def unM (h : Hp) (g : Nat → Nat) (f n r : Nat) : Hp := pI (cps (pI (pI (cps (m0 h g) g 40 (81 + r)) (g 0) 17 (nI (r + 1))) (g 0) 16 (nI n)) g (41 + (f + n) % 40) 40) (g 0) 65 0
def reM (h : Hp) (g : Nat → Nat) (f n r : Nat) : Hp := pI (cps (pI (cps (pI (m0 h g) (g 0) 16 (nI (n + 1))) g 40 (41 + (f + n) % 40)) (g 0) 17 (nI r)) g (81 + r) 40) (g 0) 65 0
/-- a step where forty are kept -/
def stB (h : Hp) (g : Nat → Nat) (a : Nat) : Hp := pI (cps (pI (pI h (g 0) 15 (nI ((a + 1) % 40))) (g 0) 17 0) g 40 (41 + ((a + 1) % 40 + 39) % 40)) (g 0) 65 0
set_option maxRecDepth 20000 in
theorem f_undo {h : Hp} {g : Nat → Nat} {f n r : Nat} (hm : MW h g) (h15 : hI h (g 0) 15 = nI f) (h16 : hI h (g 0) 16 = nI (n + 1)) (h17 : hI h (g 0) 17 = nI r) (hf : f < 40) (hn : n + 1 + r ≤ 40) : Con mX12_undo 3 0 0 [vr (some (g 0))] h (fun v u => v = some (vi (nI n)) ∧ u = unM h g f n r) := by
  refine con_of rfl (Nat.le_of_ble_eq_true rfl) (by decide) ?_
  show J mX12_undo 3 0 0 _ 0 [some (vr (some (g 0)))] [] h
  refine j_aload_n dX12_undo_0 rfl ?_
  refine j_iconst (v := 0) dX12_undo_1 (by decide) ?_
  refine j_putI dX12_undo_2 fl_X12_202 rfl rfl rfl hm.1 ?_
  rw [show pI h (g 0) 0 0 = m0 h g from rfl]
  refine j_aload_n dX12_undo_5 rfl ?_
  refine j_getI dX12_undo_6 fl_X12_227 rfl hm.1 ?_
  rw [m0_i (by decide), h16]
  refine j_if_ne 18 dX12_undo_9 (by decide) (fun c_9 => ?_) (fun c_9 => ?_)
  · refine j_aload_n dX12_undo_18 rfl ?_
    refine j_bipush (v := 40) dX12_undo_19 (by decide) ?_
    refine j_bipush (v := 81) dX12_undo_21 (by decide) ?_
    refine j_aload_n dX12_undo_23 rfl ?_
    refine j_getI dX12_undo_24 fl_X12_230 rfl hm.1 ?_
    rw [m0_i (by decide), h17]
    refine j_iadd dX12_undo_27 ?_
    rw [li_81, nI_add]
    refine j_callV2 dX12_undo_28 vl_X12_198 (c_copySheet (h := m0 h g) (s := 40) (t := 81 + r) hm (by decide) (by omega)) hm.1 rfl (by decide) (by omega) (by omega) (Nat.le_of_ble_eq_true rfl) (fun v_28 u_28 p_28 => ?_)
    obtain ⟨rfl, rfl⟩ := p_28
    rw [if_neg (show ¬ 81 + r = 40 by omega)]
    dsimp only [rs]
    refine j_aload_n dX12_undo_31 rfl ?_
    refine j_dup dX12_undo_32 rfl ?_
    refine j_getI dX12_undo_33 fl_X12_230 rfl hm.1 ?_
    rw [show hI (cps (m0 h g) g 40 (81 + r)) (g 0) 17 = nI r by rw [cps_0 hm (j := 0) rfl (Or.inl rfl), m0_i (by decide)]; exact h17]
    refine j_iconst (v := 1) dX12_undo_36 (by decide) ?_
    refine j_iadd dX12_undo_37 ?_
    rw [nI_1]
    refine j_putI dX12_undo_38 fl_X12_230 rfl rfl rfl hm.1 ?_
    refine j_aload_n dX12_undo_41 rfl ?_
    refine j_dup dX12_undo_42 rfl ?_
    refine j_getI dX12_undo_43 fl_X12_227 rfl hm.1 ?_
    rw [show hI (pI (cps (m0 h g) g 40 (81 + r)) (g 0) 17 (nI (r + 1))) (g 0) 16 = nI (n + 1) by rw [hI_pI, if_neg (by omega), cps_0 hm (j := 0) rfl (Or.inl rfl), m0_i (by decide)]; exact h16]
    refine j_iconst (v := 1) dX12_undo_46 (by decide) ?_
    refine j_isub dX12_undo_47 ?_
    rw [nI_pred]
    refine j_putI dX12_undo_48 fl_X12_227 rfl rfl rfl hm.1 ?_
    refine j_aload_n dX12_undo_51 rfl ?_
    refine j_aload_n dX12_undo_52 rfl ?_
    refine j_aload_n dX12_undo_53 rfl ?_
    refine j_getI dX12_undo_54 fl_X12_227 rfl hm.1 ?_
    rw [show hI (pI (pI (cps (m0 h g) g 40 (81 + r)) (g 0) 17 (nI (r + 1))) (g 0) 16 (nI n)) (g 0) 16 = nI n by rw [hI_pI, if_pos ⟨rfl, rfl⟩]]
    refine j_callV1 dX12_undo_57 vl_X12_233 (c_stepAt (h := pI (pI (cps (m0 h g) g 40 (81 + r)) (g 0) 17 (nI (r + 1))) (g 0) 16 (nI n)) f n (by rw [hI_pI, if_neg (by omega), hI_pI, if_neg (by omega), cps_0 hm (j := 0) rfl (Or.inl rfl), m0_i (by decide)]; exact h15) hf (by omega) hm) hm.1 rfl (by decide) (by omega) (by omega) (Nat.le_of_ble_eq_true rfl) (fun v_57 u_57 p_57 => ?_)
    obtain ⟨rfl, rfl⟩ := p_57
    dsimp only [rs]
    refine j_bipush (v := 40) dX12_undo_60 (by decide) ?_
    refine j_callV2 dX12_undo_62 vl_X12_198 (c_copySheet (h := pI (pI (cps (m0 h g) g 40 (81 + r)) (g 0) 17 (nI (r + 1))) (g 0) 16 (nI n)) (s := 41 + (f + n) % 40) (t := 40) hm (by omega) (by decide)) hm.1 rfl (by decide) (by omega) (by omega) (Nat.le_of_ble_eq_true rfl) (fun v_62 u_62 p_62 => ?_)
    obtain ⟨rfl, rfl⟩ := p_62
    rw [if_pos rfl]
    dsimp only [rs]
    refine j_aload_n dX12_undo_65 rfl ?_
    refine j_getI dX12_undo_66 fl_X12_227 rfl hm.1 ?_
    rw [show hI (pI (cps (pI (pI (cps (m0 h g) g 40 (81 + r)) (g 0) 17 (nI (r + 1))) (g 0) 16 (nI n)) g (41 + (f + n) % 40) 40) (g 0) 65 0) (g 0) 16 = nI n by rw [hI_pI, if_neg (by omega), cps_0 hm (j := 0) rfl (Or.inl rfl), hI_pI, if_pos ⟨rfl, rfl⟩]]
    exact j_ireturn dX12_undo_69 rfl rfl (⟨rfl, rfl⟩)
  · exact absurd (by rw [li_0, Ne, nI_eq (by omega) (by omega)]; omega) c_9

set_option maxRecDepth 20000 in
theorem f_redo {h : Hp} {g : Nat → Nat} {f n r : Nat} (hm : MW h g) (h15 : hI h (g 0) 15 = nI f) (h16 : hI h (g 0) 16 = nI n) (h17 : hI h (g 0) 17 = nI (r + 1)) (hf : f < 40) (hn : n + (r + 1) ≤ 40) : Con mX12_redo 3 0 0 [vr (some (g 0))] h (fun v u => v = some (vi (nI r)) ∧ u = reM h g f n r) := by
  refine con_of rfl (Nat.le_of_ble_eq_true rfl) (by decide) ?_
  show J mX12_redo 3 0 0 _ 0 [some (vr (some (g 0)))] [] h
  refine j_aload_n dX12_redo_0 rfl ?_
  refine j_iconst (v := 0) dX12_redo_1 (by decide) ?_
  refine j_putI dX12_redo_2 fl_X12_202 rfl rfl rfl hm.1 ?_
  rw [show pI h (g 0) 0 0 = m0 h g from rfl]
  refine j_aload_n dX12_redo_5 rfl ?_
  refine j_getI dX12_redo_6 fl_X12_230 rfl hm.1 ?_
  rw [m0_i (by decide), h17]
  refine j_if_ne 18 dX12_redo_9 (by decide) (fun c_9 => ?_) (fun c_9 => ?_)
  · refine j_aload_n dX12_redo_18 rfl ?_
    refine j_dup dX12_redo_19 rfl ?_
    refine j_getI dX12_redo_20 fl_X12_227 rfl hm.1 ?_
    rw [m0_i (by decide), h16]
    refine j_iconst (v := 1) dX12_redo_23 (by decide) ?_
    refine j_iadd dX12_redo_24 ?_
    rw [nI_1]
    refine j_putI dX12_redo_25 fl_X12_227 rfl rfl rfl hm.1 ?_
    refine j_aload_n dX12_redo_28 rfl ?_
    refine j_bipush (v := 40) dX12_redo_29 (by decide) ?_
    refine j_aload_n dX12_redo_31 rfl ?_
    refine j_aload_n dX12_redo_32 rfl ?_
    refine j_getI dX12_redo_33 fl_X12_227 rfl hm.1 ?_
    rw [show hI (pI (m0 h g) (g 0) 16 (nI (n + 1))) (g 0) 16 = nI (n + 1) by rw [hI_pI, if_pos ⟨rfl, rfl⟩]]
    refine j_iconst (v := 1) dX12_redo_36 (by decide) ?_
    refine j_isub dX12_redo_37 ?_
    rw [nI_pred]
    refine j_callV1 dX12_redo_38 vl_X12_233 (c_stepAt (h := pI (m0 h g) (g 0) 16 (nI (n + 1))) f n (by rw [hI_pI, if_neg (by omega), m0_i (by decide)]; exact h15) hf (by omega) hm) hm.1 rfl (by decide) (by omega) (by omega) (Nat.le_of_ble_eq_true rfl) (fun v_38 u_38 p_38 => ?_)
    obtain ⟨rfl, rfl⟩ := p_38
    dsimp only [rs]
    refine j_callV2 dX12_redo_41 vl_X12_198 (c_copySheet (h := pI (m0 h g) (g 0) 16 (nI (n + 1))) (s := 40) (t := 41 + (f + n) % 40) hm (by decide) (by omega)) hm.1 rfl (by decide) (by omega) (by omega) (Nat.le_of_ble_eq_true rfl) (fun v_41 u_41 p_41 => ?_)
    obtain ⟨rfl, rfl⟩ := p_41
    rw [if_neg (show ¬ 41 + (f + n) % 40 = 40 by omega)]
    dsimp only [rs]
    refine j_aload_n dX12_redo_44 rfl ?_
    refine j_dup dX12_redo_45 rfl ?_
    refine j_getI dX12_redo_46 fl_X12_230 rfl hm.1 ?_
    rw [show hI (cps (pI (m0 h g) (g 0) 16 (nI (n + 1))) g 40 (41 + (f + n) % 40)) (g 0) 17 = nI (r + 1) by rw [cps_0 hm (j := 0) rfl (Or.inl rfl), hI_pI, if_neg (by omega), m0_i (by decide)]; exact h17]
    refine j_iconst (v := 1) dX12_redo_49 (by decide) ?_
    refine j_isub dX12_redo_50 ?_
    rw [nI_pred]
    refine j_putI dX12_redo_51 fl_X12_230 rfl rfl rfl hm.1 ?_
    refine j_aload_n dX12_redo_54 rfl ?_
    refine j_bipush (v := 81) dX12_redo_55 (by decide) ?_
    refine j_aload_n dX12_redo_57 rfl ?_
    refine j_getI dX12_redo_58 fl_X12_230 rfl hm.1 ?_
    rw [show hI (pI (cps (pI (m0 h g) (g 0) 16 (nI (n + 1))) g 40 (41 + (f + n) % 40)) (g 0) 17 (nI r)) (g 0) 17 = nI r by rw [hI_pI, if_pos ⟨rfl, rfl⟩]]
    refine j_iadd dX12_redo_61 ?_
    rw [li_81, nI_add]
    refine j_bipush (v := 40) dX12_redo_62 (by decide) ?_
    refine j_callV2 dX12_redo_64 vl_X12_198 (c_copySheet (h := pI (cps (pI (m0 h g) (g 0) 16 (nI (n + 1))) g 40 (41 + (f + n) % 40)) (g 0) 17 (nI r)) (s := 81 + r) (t := 40) hm (by omega) (by decide)) hm.1 rfl (by decide) (by omega) (by omega) (Nat.le_of_ble_eq_true rfl) (fun v_64 u_64 p_64 => ?_)
    obtain ⟨rfl, rfl⟩ := p_64
    rw [if_pos rfl]
    dsimp only [rs]
    refine j_aload_n dX12_redo_67 rfl ?_
    refine j_getI dX12_redo_68 fl_X12_230 rfl hm.1 ?_
    rw [show hI (pI (cps (pI (cps (pI (m0 h g) (g 0) 16 (nI (n + 1))) g 40 (41 + (f + n) % 40)) (g 0) 17 (nI r)) g (81 + r) 40) (g 0) 65 0) (g 0) 17 = nI r by rw [hI_pI, if_neg (by omega), cps_0 hm (j := 0) rfl (Or.inl rfl), hI_pI, if_pos ⟨rfl, rfl⟩]]
    exact j_ireturn dX12_redo_71 rfl rfl (⟨rfl, rfl⟩)
  · exact absurd (by rw [li_0, Ne, nI_eq (by omega) (by omega)]; omega) c_9

set_option maxRecDepth 20000 in
theorem f_undo0 {h : Hp} {g : Nat → Nat} (hm : MW h g) (h1 : hI h (g 0) 16 = 0) : Con mX12_undo 3 0 0 [vr (some (g 0))] h (fun v u => v = some (vi 0) ∧ u = pI (m0 h g) (g 0) 0 1) := by
  refine con_of rfl (Nat.le_of_ble_eq_true rfl) (by decide) ?_
  show J mX12_undo 3 0 0 _ 0 [some (vr (some (g 0)))] [] h
  refine j_aload_n dX12_undo_0 rfl ?_
  refine j_iconst (v := 0) dX12_undo_1 (by decide) ?_
  refine j_putI dX12_undo_2 fl_X12_202 rfl rfl rfl hm.1 ?_
  rw [show pI h (g 0) 0 0 = m0 h g from rfl]
  refine j_aload_n dX12_undo_5 rfl ?_
  refine j_getI dX12_undo_6 fl_X12_227 rfl hm.1 ?_
  rw [m0_i (by decide), h1]
  refine j_if_ne 18 dX12_undo_9 (by decide) (fun c_9 => ?_) (fun c_9 => ?_)
  · exact absurd c_9 (fun e => e rfl)
  · refine j_aload_n dX12_undo_12 rfl ?_
    refine j_iconst (v := 1) dX12_undo_13 (by decide) ?_
    refine j_callV1 dX12_undo_14 vl_X12_237 (c_throwing (h := m0 h g) 1 hm) hm.1 rfl (by decide) (by omega) (by omega) (Nat.le_of_ble_eq_true rfl) (fun v_14 u_14 p_14 => ?_)
    obtain ⟨rfl, rfl⟩ := p_14
    dsimp only [rs]
    exact j_ireturn dX12_undo_17 rfl rfl (⟨rfl, rfl⟩)

set_option maxRecDepth 20000 in
theorem f_redo0 {h : Hp} {g : Nat → Nat} (hm : MW h g) (h1 : hI h (g 0) 17 = 0) : Con mX12_redo 3 0 0 [vr (some (g 0))] h (fun v u => v = some (vi 0) ∧ u = pI (m0 h g) (g 0) 0 1) := by
  refine con_of rfl (Nat.le_of_ble_eq_true rfl) (by decide) ?_
  show J mX12_redo 3 0 0 _ 0 [some (vr (some (g 0)))] [] h
  refine j_aload_n dX12_redo_0 rfl ?_
  refine j_iconst (v := 0) dX12_redo_1 (by decide) ?_
  refine j_putI dX12_redo_2 fl_X12_202 rfl rfl rfl hm.1 ?_
  rw [show pI h (g 0) 0 0 = m0 h g from rfl]
  refine j_aload_n dX12_redo_5 rfl ?_
  refine j_getI dX12_redo_6 fl_X12_230 rfl hm.1 ?_
  rw [m0_i (by decide), h1]
  refine j_if_ne 18 dX12_redo_9 (by decide) (fun c_9 => ?_) (fun c_9 => ?_)
  · exact absurd c_9 (fun e => e rfl)
  · refine j_aload_n dX12_redo_12 rfl ?_
    refine j_iconst (v := 1) dX12_redo_13 (by decide) ?_
    refine j_callV1 dX12_redo_14 vl_X12_237 (c_throwing (h := m0 h g) 1 hm) hm.1 rfl (by decide) (by omega) (by omega) (Nat.le_of_ble_eq_true rfl) (fun v_14 u_14 p_14 => ?_)
    obtain ⟨rfl, rfl⟩ := p_14
    dsimp only [rs]
    exact j_ireturn dX12_redo_17 rfl rfl (⟨rfl, rfl⟩)

set_option maxRecDepth 20000 in
theorem c_stepB {h : Hp} {g : Nat → Nat} {a : Nat} (hm : MW h g) (ha : hI h (g 0) 15 = nI a) (hb : hI h (g 0) 16 = 40) (ha4 : a < 40) : Con mX12_step 3 0 0 [vr (some (g 0))] h (fun v u => v = some (vi (nI (41 + ((a + 1) % 40 + 39) % 40))) ∧ u = stB h g a) := by
  refine con_of rfl (Nat.le_of_ble_eq_true rfl) (by decide) ?_
  show J mX12_step 3 0 0 _ 0 [some (vr (some (g 0))), none] [] h
  refine j_aload_n dX12_step_0 rfl ?_
  refine j_getI dX12_step_1 fl_X12_227 rfl hm.1 ?_
  rw [hb]
  refine j_bipush (v := 40) dX12_step_4 (by decide) ?_
  refine j_icmp_ne 25 dX12_step_6 (by decide) (fun c_6 => ?_) (fun c_6 => ?_)
  · exact absurd c_6 (fun e => e rfl)
  · refine j_aload_n dX12_step_9 rfl ?_
    refine j_aload_n dX12_step_10 rfl ?_
    refine j_getI dX12_step_11 fl_X12_224 rfl hm.1 ?_
    rw [ha]
    refine j_iconst (v := 1) dX12_step_14 (by decide) ?_
    refine j_iadd dX12_step_15 ?_
    refine j_bipush (v := 40) dX12_step_16 (by decide) ?_
    refine j_irem dX12_step_18 (by decide) ?_
    rw [nI_1, li_40, pk_div (by omega) (by decide) (by decide), pk_mul, pk_sub (by omega), show a + 1 - (a + 1) / 40 * 40 = (a + 1) % 40 by omega]
    refine j_putI dX12_step_19 fl_X12_224 rfl rfl rfl hm.1 ?_
    refine j_goto 35 dX12_step_22 (by decide) ?_
    refine j_aload_n dX12_step_35 rfl ?_
    refine j_iconst (v := 0) dX12_step_36 (by decide) ?_
    refine j_putI dX12_step_37 fl_X12_230 rfl rfl rfl hm.1 ?_
    refine j_aload_n dX12_step_40 rfl ?_
    refine j_aload_n dX12_step_41 rfl ?_
    refine j_getI dX12_step_42 fl_X12_227 rfl hm.1 ?_
    rw [show hI (pI (pI h (g 0) 15 (nI ((a + 1) % 40))) (g 0) 17 0) (g 0) 16 = 40 by simp [hI_pI]; exact hb]
    refine j_iconst (v := 1) dX12_step_45 (by decide) ?_
    refine j_isub dX12_step_46 ?_
    rw [show (40 : Int32) - 1 = nI 39 from rfl]
    refine j_callV1 dX12_step_47 vl_X12_233 (c_stepAt (h := pI (pI h (g 0) 15 (nI ((a + 1) % 40))) (g 0) 17 0) ((a + 1) % 40) 39 (by simp [hI_pI]) (Nat.mod_lt _ (by decide)) (by decide) hm) hm.1 rfl (by decide) (by omega) (by omega) (Nat.le_of_ble_eq_true rfl) (fun v_47 u_47 p_47 => ?_)
    obtain ⟨rfl, rfl⟩ := p_47
    dsimp only [rs]
    refine j_istore_n dX12_step_50 (by decide) ?_
    dsimp only [st1, st2, unL, List.set]
    refine j_aload_n dX12_step_51 rfl ?_
    refine j_bipush (v := 40) dX12_step_52 (by decide) ?_
    refine j_iload_n dX12_step_54 rfl ?_
    refine j_callV2 dX12_step_55 vl_X12_198 (c_copySheet (h := pI (pI h (g 0) 15 (nI ((a + 1) % 40))) (g 0) 17 0) (s := 40) (t := 41 + ((a + 1) % 40 + 39) % 40) hm (by decide) (by omega)) hm.1 rfl (by decide) (by omega) (by omega) (Nat.le_of_ble_eq_true rfl) (fun v_55 u_55 p_55 => ?_)
    obtain ⟨rfl, rfl⟩ := p_55
    rw [if_neg (show ¬ 41 + ((a + 1) % 40 + 39) % 40 = 40 by omega)]
    dsimp only [rs]
    refine j_aload_n dX12_step_58 rfl ?_
    refine j_iconst (v := 0) dX12_step_59 (by decide) ?_
    refine j_putI dX12_step_60 fl_X12_205 rfl rfl rfl hm.1 ?_
    refine j_iload_n dX12_step_63 rfl ?_
    exact j_ireturn dX12_step_64 rfl rfl (⟨rfl, rfl⟩)

