/-! ===== in general: undo, redo of the system; what never throws ===== -/
/-- a contract without a throw is one with -/
theorem conX_of {Y : MI} {d mc ms : Nat} {as : List Sv} {h : Hp} {post : Option Sv → Hp → Prop} (c : Con Y d mc ms as h post) : ConX Y d mc ms as h (nx post) := by
  intro l D cy L sz hl hL p e h1 h2 h3 s m args below h4 h5 h6 h7
  obtain ⟨n, o, g1, g2, g3, g4⟩ := c l D cy L sz hL p e h1 h2 h3 s m args below h4 h5 ⟨h6.1, h6.2.1⟩ h7
  exact ⟨n, o, g1, g2, g3, Or.inl g4⟩
def undoC (h : Hp) (b : Nat → Nat) (w n r : Nat) : Hp := pO (pO (pI (pO (pI h (b 6) 2 (nI n)) (b 33) r (some w)) (b 6) 3 (nI (r + 1))) w 3 none) (b 0) 11 (hO h (b 32) n)
set_option maxRecDepth 20000 in
theorem g_undo {h : Hp} {b : Nat → Nat} {w n r : Nat} (cw : CW h b) (o11 : hO h (b 0) 11 = some w) (kw : hK h w = 7) (hc : hI h (b 6) 2 = nI (n + 1)) (hr : hI h (b 6) 3 = nI r) (hnr : n + 1 + r ≤ 40) : Con mX11_undo 3 0 0 [vr (some (b 0))] h (fun v u => v = some (vi (nI n)) ∧ u = undoC h b w n r) := by
  have bw : b 0 ≠ w := fun e => by have := cwK cw 0 (c := 12) rfl rfl; rw [e] at this; omega
  refine con_of rfl (Nat.le_of_ble_eq_true rfl) (by decide) ?_
  show J mX11_undo 3 0 0 _ 0 [some (vr (some (b 0)))] [] h
  refine j_aload_n dX11_undo_0 rfl ?_
  refine j_getR dX11_undo_1 fl_X11_53 rfl (cwK cw 0 rfl rfl) (cwO cw 0 5 6 (by decide)) ?_
  refine j_getI dX11_undo_4 fl_X11_220 rfl (cwK cw 6 rfl rfl) ?_
  rw [hc]
  refine j_if_ne 18 dX11_undo_7 (by decide) (fun c_7 => ?_) (fun c_7 => ?_)
  · refine j_aload_n dX11_undo_18 rfl ?_
    refine j_aload_n dX11_undo_19 rfl ?_
    refine j_getR dX11_undo_20 fl_X11_53 rfl (cwK cw 0 rfl rfl) (cwO cw 0 5 6 (by decide)) ?_
    refine j_aload_n dX11_undo_23 rfl ?_
    refine j_getR dX11_undo_24 fl_X11_104 rfl (cwK cw 0 rfl rfl) o11 ?_
    refine j_callV1 dX11_undo_27 vl_X11_226 (c_back7 (cwK cw 6 rfl rfl) (cwO cw 6 0 32 (by decide)) (cwO cw 6 1 33 (by decide)) (cwK cw 32 rfl rfl) (cwN cw 32 rfl rfl) (cwK cw 33 rfl rfl) (cwN cw 33 rfl rfl) (cwNe cw (i := 32) (j := 33) rfl rfl rfl) hc hr hnr kw) (by first | exact cwK cw 0 rfl rfl | exact cwK cw 6 rfl rfl) rfl (by decide) (by omega) (by omega) (Nat.le_of_ble_eq_true rfl) (fun v_27 u_27 p_27 => ?_)
    obtain ⟨rfl, rfl⟩ := p_27
    dsimp only [rs]
    refine j_callV1 dX11_undo_30 vl_X11_230 (c_show (h := pI (pO (pI h (b 6) 2 (nI n)) (b 33) r (some w)) (b 6) 3 (nI (r + 1))) (cwK cw 0 rfl rfl) (by rw [hO_pI, hO_pO, if_neg (fun e => cwNe cw (i := 0) (j := 33) rfl rfl rfl e.1), hO_pI]; exact o11) kw) (by first | exact cwK cw 0 rfl rfl | exact cwK cw 6 rfl rfl) rfl (by decide) (by omega) (by omega) (Nat.le_of_ble_eq_true rfl) (fun v_30 u_30 p_30 => ?_)
    obtain ⟨rfl, rfl⟩ := p_30
    dsimp only [rs]
    refine j_aload_n dX11_undo_33 rfl ?_
    refine j_getR dX11_undo_34 fl_X11_53 rfl (cwK cw 0 rfl rfl) (show hO (pO (pO (pI (pO (pI h (b 6) 2 (nI n)) (b 33) r (some w)) (b 6) 3 (nI (r + 1))) w 3 none) (b 0) 11 (hO h (b 32) n)) (b 0) 5 = some (b 6) by rw [hO_pO, if_neg (by omega), hO_pO, if_neg (fun e => bw e.1), hO_pI, hO_pO, if_neg (fun e => cwNe cw (i := 0) (j := 33) rfl rfl rfl e.1), hO_pI]; exact cwO cw 0 5 6 (by decide)) ?_
    refine j_getI dX11_undo_37 fl_X11_220 rfl (cwK cw 6 rfl rfl) ?_
    rw [show hI (pO (pO (pI (pO (pI h (b 6) 2 (nI n)) (b 33) r (some w)) (b 6) 3 (nI (r + 1))) w 3 none) (b 0) 11 (hO h (b 32) n)) (b 6) 2 = nI n by rw [hI_pO, hI_pO, hI_pI, if_neg (by omega), hI_pO, hI_pI, if_pos ⟨rfl, rfl⟩]]
    exact j_ireturn dX11_undo_40 rfl rfl (⟨rfl, rfl⟩)
  · exact absurd (by rw [li_0, Ne, nI_eq (by omega) (by omega)]; omega) c_7

def redoC (h : Hp) (b : Nat → Nat) (w n r : Nat) : Hp := pO (pO (pI (pO (pI h (b 6) 3 (nI n)) (b 32) r (some w)) (b 6) 2 (nI (r + 1))) w 3 none) (b 0) 11 (hO h (b 33) n)
set_option maxRecDepth 20000 in
theorem g_redo {h : Hp} {b : Nat → Nat} {w n r : Nat} (cw : CW h b) (o11 : hO h (b 0) 11 = some w) (kw : hK h w = 7) (hc : hI h (b 6) 3 = nI (n + 1)) (hr : hI h (b 6) 2 = nI r) (hnr : n + 1 + r ≤ 40) : Con mX11_redo 3 0 0 [vr (some (b 0))] h (fun v u => v = some (vi (nI n)) ∧ u = redoC h b w n r) := by
  have bw : b 0 ≠ w := fun e => by have := cwK cw 0 (c := 12) rfl rfl; rw [e] at this; omega
  refine con_of rfl (Nat.le_of_ble_eq_true rfl) (by decide) ?_
  show J mX11_redo 3 0 0 _ 0 [some (vr (some (b 0)))] [] h
  refine j_aload_n dX11_redo_0 rfl ?_
  refine j_getR dX11_redo_1 fl_X11_53 rfl (cwK cw 0 rfl rfl) (cwO cw 0 5 6 (by decide)) ?_
  refine j_getI dX11_redo_4 fl_X11_233 rfl (cwK cw 6 rfl rfl) ?_
  rw [hc]
  refine j_if_ne 18 dX11_redo_7 (by decide) (fun c_7 => ?_) (fun c_7 => ?_)
  · refine j_aload_n dX11_redo_18 rfl ?_
    refine j_aload_n dX11_redo_19 rfl ?_
    refine j_getR dX11_redo_20 fl_X11_53 rfl (cwK cw 0 rfl rfl) (cwO cw 0 5 6 (by decide)) ?_
    refine j_aload_n dX11_redo_23 rfl ?_
    refine j_getR dX11_redo_24 fl_X11_104 rfl (cwK cw 0 rfl rfl) o11 ?_
    refine j_callV1 dX11_redo_27 vl_X11_236 (c_again7 (cwK cw 6 rfl rfl) (cwO cw 6 1 33 (by decide)) (cwO cw 6 0 32 (by decide)) (cwK cw 33 rfl rfl) (cwN cw 33 rfl rfl) (cwK cw 32 rfl rfl) (cwN cw 32 rfl rfl) (cwNe cw (i := 33) (j := 32) rfl rfl rfl) hc hr hnr kw) (by first | exact cwK cw 0 rfl rfl | exact cwK cw 6 rfl rfl) rfl (by decide) (by omega) (by omega) (Nat.le_of_ble_eq_true rfl) (fun v_27 u_27 p_27 => ?_)
    obtain ⟨rfl, rfl⟩ := p_27
    dsimp only [rs]
    refine j_callV1 dX11_redo_30 vl_X11_230 (c_show (h := pI (pO (pI h (b 6) 3 (nI n)) (b 32) r (some w)) (b 6) 2 (nI (r + 1))) (cwK cw 0 rfl rfl) (by rw [hO_pI, hO_pO, if_neg (fun e => cwNe cw (i := 0) (j := 32) rfl rfl rfl e.1), hO_pI]; exact o11) kw) (by first | exact cwK cw 0 rfl rfl | exact cwK cw 6 rfl rfl) rfl (by decide) (by omega) (by omega) (Nat.le_of_ble_eq_true rfl) (fun v_30 u_30 p_30 => ?_)
    obtain ⟨rfl, rfl⟩ := p_30
    dsimp only [rs]
    refine j_aload_n dX11_redo_33 rfl ?_
    refine j_getR dX11_redo_34 fl_X11_53 rfl (cwK cw 0 rfl rfl) (show hO (pO (pO (pI (pO (pI h (b 6) 3 (nI n)) (b 32) r (some w)) (b 6) 2 (nI (r + 1))) w 3 none) (b 0) 11 (hO h (b 33) n)) (b 0) 5 = some (b 6) by rw [hO_pO, if_neg (by omega), hO_pO, if_neg (fun e => bw e.1), hO_pI, hO_pO, if_neg (fun e => cwNe cw (i := 0) (j := 32) rfl rfl rfl e.1), hO_pI]; exact cwO cw 0 5 6 (by decide)) ?_
    refine j_getI dX11_redo_37 fl_X11_233 rfl (cwK cw 6 rfl rfl) ?_
    rw [show hI (pO (pO (pI (pO (pI h (b 6) 3 (nI n)) (b 32) r (some w)) (b 6) 2 (nI (r + 1))) w 3 none) (b 0) 11 (hO h (b 33) n)) (b 6) 3 = nI n by rw [hI_pO, hI_pO, hI_pI, if_neg (by omega), hI_pO, hI_pI, if_pos ⟨rfl, rfl⟩]]
    exact j_ireturn dX11_redo_40 rfl rfl (⟨rfl, rfl⟩)
  · exact absurd (by rw [li_0, Ne, nI_eq (by omega) (by omega)]; omega) c_7

