/-! ===== the system on a fresh object: calls, two ===== -/
set_option maxRecDepth 20000 in
theorem d_commit {h : Hp} {b : Nat → Nat} {w xw : Nat} (fc : FC h b w xw) : ConX mX11_commit 6 3 330 [vr (some (b 0))] h (px h b w xw ["java/lang/IllegalStateException", "java/lang/UnsupportedOperationException"] (0) (1)) := by
  refine con_ofX rfl (Nat.le_of_ble_eq_true rfl) (by decide) (by decide) ?_
  show J mX11_commit 6 3 330 _ 0 [some (vr (some (b 0)))] [] h
  refine j_aload_n dX11_commit_0 rfl ?_
  refine j_getR dX11_commit_1 fl_X11_46 rfl (fcK fc 0 rfl rfl) (fcO fc 0 4 5 (by decide)) ?_
  refine j_callV0 dX11_commit_4 vl_X11_239 (d_unsettled (fcK fc 5 rfl rfl) (fcI fc 5 2 0 (by decide))) (fcK fc 5 rfl rfl) rfl (by decide) (by omega) (by omega) (Nat.le_of_ble_eq_true rfl) (fun v_4 u_4 p_4 => ?_)
  obtain ⟨e_4, rfl⟩ := p_4
  rw [e_4]
  clear e_4
  dsimp only [rs]
  refine j_if_le 18 dX11_commit_7 (by decide) (fun c_7 => ?_) (fun c_7 => ?_)
  · refine j_aload_n dX11_commit_18 rfl ?_
    refine j_getR dX11_commit_19 fl_X11_26 rfl (fcK fc 0 rfl rfl) (fcO fc 0 2 3 (by decide)) ?_
    refine j_getI dX11_commit_22 fl_X11_243 rfl (fcK fc 3 rfl rfl) ?_
    rw [fcI fc 3 4 (1) (by decide)]
    refine j_bipush (v := 40) dX11_commit_25 (by decide) ?_
    refine j_icmp_lt 38 dX11_commit_27 (by decide) (fun c_27 => ?_) (fun c_27 => ?_)
    · refine j_aload_n dX11_commit_38 rfl ?_
      refine j_getR dX11_commit_39 fl_X11_70 rfl (fcK fc 0 rfl rfl) (fcO fc 0 8 9 (by decide)) ?_
      refine j_aload_n dX11_commit_42 rfl ?_
      refine j_getI dX11_commit_43 fl_X11_246 rfl (fcK fc 0 rfl rfl) ?_
      rw [fcI fc 0 12 (0) (by decide)]
      refine j_aload_n dX11_commit_46 rfl ?_
      refine j_getR dX11_commit_47 fl_X11_26 rfl (fcK fc 0 rfl rfl) (fcO fc 0 2 3 (by decide)) ?_
      refine j_aload_n dX11_commit_50 rfl ?_
      refine j_getR dX11_commit_51 fl_X11_104 rfl (fcK fc 0 rfl rfl) (fcW fc) ?_
      refine j_callV0 dX11_commit_54 vl_X11_100 (c_twin (fcS fc) (fcCel fc)) (fcS fc).1 rfl (by decide) (by omega) (by omega) (Nat.le_of_ble_eq_true rfl) (fun v_54 u_54 p_54 => ?_)
      obtain ⟨q, xq, rfl, hq0, hxq0, hS2, hEx, -⟩ := p_54
      have fc2 := FC_ex fc hEx
      dsimp only [rs]
      refine j_aload_n dX11_commit_57 rfl ?_
      refine j_callV0 dX11_commit_58 vl_X11_249 (d_head fc2) (by first | exact fcK fc 0 rfl rfl | exact fcK fc2 0 rfl rfl | exact fcK fc2 3 rfl rfl) rfl (by decide) (by omega) (by omega) (Nat.le_of_ble_eq_true rfl) (fun v_58 u_58 p_58 => ?_)
      obtain ⟨e_58, rfl⟩ := p_58
      rw [e_58]
      clear e_58
      dsimp only [rs]
      refine j_aload_n dX11_commit_61 rfl ?_
      refine j_getI dX11_commit_62 fl_X11_77 rfl (fcK fc2 0 rfl rfl) ?_
      rw [fcI fc2 0 13 (-1) (by decide)]
      refine j_callV3 dX11_commit_65 vl_X11_96 (c_logAdd 0 (-1) (fcLg fc2) (by decide) hS2.1) (by first | exact fcK fc 0 rfl rfl | exact fcK fc2 0 rfl rfl | exact fcK fc2 3 rfl rfl) rfl (by decide) (by omega) (by omega) (Nat.le_of_ble_eq_true rfl) (fun v_65 u_65 p_65 => ?_)
      obtain ⟨rfl, rfl⟩ := p_65
      dsimp only [rs]
      refine j_iast 0 dX11_commit_68 (fcK fc2 9 rfl rfl) rfl (by show 0 < hN u_54 (b 9); rw [fcN fc2 9 (c := 6) rfl rfl]; decide) (by show hN u_54 (b 9) < _; rw [fcN fc2 9 (c := 6) rfl rfl]; decide) ?_
      refine j_aload_n dX11_commit_69 rfl ?_
      refine j_iconst (v := -1) dX11_commit_70 (by decide) ?_
      refine j_putI dX11_commit_71 fl_X11_77 rfl rfl rfl (fcK fc2 0 rfl rfl) ?_
      refine j_aload_n dX11_commit_74 rfl ?_
      refine j_getR dX11_commit_75 fl_X11_46 rfl (fcK fc2 0 rfl rfl) (by show hO (pO u_54 (b 18) 1 (some q)) (b 0) 4 = _; rw [hO_pO, if_neg (fun e => fcNe fc2 (i := 0) (j := 18) rfl rfl rfl e.1)]; exact fcO fc2 0 4 5 (by decide)) ?_
      refine j_iconst (v := 0) dX11_commit_78 (by decide) ?_
      refine j_putI dX11_commit_79 fl_X11_252 rfl rfl rfl (fcK fc2 5 rfl rfl) ?_
      refine j_aload_n dX11_commit_82 rfl ?_
      refine j_callV0 dX11_commit_83 vl_X11_249 (c_head11 (h := pI (pI (pI (pI (pG (pI (pI (pO u_54 (b 18) 1 (some q)) (b 19) 1 0) (b 20) 1 (-1)) (b 21) 1 (1 <<< ((nI 1).toInt64 &&& 63) ||| anV u_54 (b 21) 1 0 ||| anV u_54 (b 21) 1 (-1))) (b 3) 4 (nI (1 + 1))) (b 9) 0 (nI 1)) (b 0) 13 (-1)) (b 5) 2 0) (g := 0) (fcK fc2 0 rfl rfl) (by show hO (pO u_54 (b 18) 1 (some q)) (b 0) 8 = _; rw [hO_pO, if_neg (fun e => fcNe fc2 (i := 0) (j := 18) rfl rfl rfl e.1)]; exact fcO fc2 0 8 9 (by decide)) (fcK fc2 9 rfl rfl) (fcN fc2 9 rfl rfl) (by simp [hI_pI, hI_pG, hI_pO, fcNe fc2 (i := 0) (j := 3) rfl rfl rfl, fcNe fc2 (i := 0) (j := 5) rfl rfl rfl, fcNe fc2 (i := 0) (j := 9) rfl rfl rfl, fcNe fc2 (i := 0) (j := 19) rfl rfl rfl, fcNe fc2 (i := 0) (j := 20) rfl rfl rfl, fcNe fc2 (i := 9) (j := 0) rfl rfl rfl, fcNe fc2 (i := 9) (j := 3) rfl rfl rfl, fcNe fc2 (i := 9) (j := 5) rfl rfl rfl, fcNe fc2 (i := 9) (j := 19) rfl rfl rfl, fcNe fc2 (i := 9) (j := 20) rfl rfl rfl]; exact fcI fc2 0 12 0 (by decide)) (by decide)) (by first | exact fcK fc 0 rfl rfl | exact fcK fc2 0 rfl rfl | exact fcK fc2 3 rfl rfl) rfl (by decide) (by omega) (by omega) (Nat.le_of_ble_eq_true rfl) (fun v_83 u_83 p_83 => ?_)
      obtain ⟨e_83, rfl⟩ := p_83
      rw [e_83]
      clear e_83
      dsimp only [rs]
      rw [show hI (pI (pI (pI (pI (pG (pI (pI (pO u_54 (b 18) 1 (some q)) (b 19) 1 0) (b 20) 1 (-1)) (b 21) 1 (1 <<< ((nI 1).toInt64 &&& 63) ||| anV u_54 (b 21) 1 0 ||| anV u_54 (b 21) 1 (-1))) (b 3) 4 (nI (1 + 1))) (b 9) 0 (nI 1)) (b 0) 13 (-1)) (b 5) 2 0) (b 9) 0 = 1 by simp [hI_pI, hI_pG, hI_pO, fcNe fc2 (i := 0) (j := 3) rfl rfl rfl, fcNe fc2 (i := 0) (j := 5) rfl rfl rfl, fcNe fc2 (i := 0) (j := 9) rfl rfl rfl, fcNe fc2 (i := 0) (j := 19) rfl rfl rfl, fcNe fc2 (i := 0) (j := 20) rfl rfl rfl, fcNe fc2 (i := 9) (j := 0) rfl rfl rfl, fcNe fc2 (i := 9) (j := 3) rfl rfl rfl, fcNe fc2 (i := 9) (j := 5) rfl rfl rfl, fcNe fc2 (i := 9) (j := 19) rfl rfl rfl, fcNe fc2 (i := 9) (j := 20) rfl rfl rfl]; rfl]
      exact j_ireturn dX11_commit_86 rfl rfl ⟨Fr_pI (Fr_pI (Fr_pI (Fr_pI (Fr_pG (Fr_pI (Fr_pI (Fr_pO (frE hEx) (Or.inl (ccB b w xw rfl))) (Or.inl (ccB b w xw rfl))) (Or.inl (ccB b w xw rfl))) (Or.inl (ccB b w xw rfl))) (Or.inl (ccB b w xw rfl))) (Or.inl (ccB b w xw rfl))) (Or.inl (ccB b w xw rfl))) (Or.inl (ccB b w xw rfl)), rfl, rfl⟩
    · exact absurd (by decide) c_27
  · exact absurd (by decide) c_7

theorem sub10 {x : Int32} : (0 ≤ x - 10 ∧ x - 10 ≤ 5) ↔ (10 ≤ x ∧ x ≤ 15) := by
  constructor
  · rintro ⟨h1, h2⟩
    obtain ⟨k, hk, e, -⟩ := nI_ex (x := x - 10) (n := 5) (by simpa [le_i] using h1) (by simpa [le_i] using h2)
    have ex : x = nI (k + 10) := by
      have : x = (x - 10) + 10 := by simp
      rw [this, e, li_10, nI_add]
    rw [ex]; simp only [le_i, nI_toInt (n := k + 10) (by omega), Int32.reduceToInt]; omega
  · rintro ⟨h1, h2⟩
    simp only [le_i, Int32.reduceToInt] at h1 h2
    obtain ⟨k, hk, rfl, hkk⟩ := nI_ex (x := x) (n := 15) (by omega) (by omega)
    rw [li_10, pk_sub (by omega)]
    simp only [le_i, nI_toInt (n := k - 10) (by omega), Int32.reduceToInt]; omega
set_option maxRecDepth 20000 in
theorem d_total {h : Hp} {b : Nat → Nat} {w xw : Nat} (x : Int32) (fc : FC h b w xw) : Con mX11_total 4 0 0 [vr (some (b 0)), vi x] h (fun v u => u = h ∧ v = some (vi (toR x))) := by
  refine con_of rfl (Nat.le_of_ble_eq_true rfl) (by decide) ?_
  show J mX11_total 4 0 0 _ 0 [some (vr (some (b 0))), some (vi x)] [] h
  refine j_iload_n dX11_total_0 rfl ?_
  rcases sw_9 x with hsw | rfl | rfl | rfl | rfl | rfl | rfl | rfl | rfl | rfl | rfl
  · refine j_tabOut 129 dX11_total_1 hsw (by decide) ?_
    refine j_iload_n dX11_total_129 rfl ?_
    refine j_bipush (v := 10) dX11_total_130 (by decide) ?_
    refine j_isub dX11_total_132 ?_
    refine j_callS1 dX11_total_133 sl_X11_253 (c_isBranch _) rfl (by decide) (by omega) (by omega) (Nat.le_of_ble_eq_true rfl) (fun v_133 u_133 p_133 => ?_)
    obtain ⟨e_133, rfl⟩ := p_133
    rw [e_133]
    clear e_133
    dsimp only [rs]
    refine j_if_eq 151 dX11_total_136 (by decide) (fun c_136 => ?_) (fun c_136 => ?_)
    · refine j_iconst (v := -1) dX11_total_151 (by decide) ?_
      first | (rcases hbb with rfl | rfl | rfl | rfl | rfl | rfl <;> exact j_ireturn dX11_total_152 rfl rfl ⟨rfl, by rfl⟩) | exact j_ireturn dX11_total_152 rfl rfl ⟨rfl, by rw [toR, if_neg (by rintro rfl; revert hsw; decide), if_neg (by rintro rfl; revert hsw; decide), if_neg (fun w => b2_0.mp c_136 (sub10.mpr w)), if_neg (by simp only [le_i, Int32.reduceToInt]; omega)]⟩
    · have q := sub10.mp (b2_nn.mp c_136)
      have q2 := q
      simp only [le_i, Int32.reduceToInt] at q2
      obtain ⟨k0, hk0, hx, hkk⟩ := nI_ex (x := x) (n := 15) (by omega) (by omega)
      obtain ⟨k, rfl⟩ : ∃ k, k0 = k + 10 := ⟨k0 - 10, by omega⟩
      obtain ⟨k1, hk1, hx1, hv⟩ := brC fc (sub10.mpr q)
      have e1 : k1 = k := by rw [hx, li_10, pk_sub (by omega), show k + 10 - 10 = k by omega, nI_eq (by omega) (by omega)] at hx1; exact hx1.symm
      subst e1
      subst hx
      refine j_aload_n dX11_total_139 rfl ?_
      refine j_getR dX11_total_140 fl_X11_70 rfl (fcK fc 0 rfl rfl) (fcO fc 0 8 9 (by decide)) ?_
      refine j_iload_n dX11_total_143 rfl ?_
      refine j_bipush (v := 10) dX11_total_144 (by decide) ?_
      refine j_isub dX11_total_146 ?_
      refine j_iald k1 dX11_total_147 (fcK fc 9 rfl rfl) (by rw [li_10, pk_sub (by omega)]; congr 1) (by rw [fcN fc 9 (c := 6) rfl rfl]; exact hk1) (by rw [fcN fc 9 (c := 6) rfl rfl]; decide) ?_
      rw [hv]
      have hbb : k1 = 0 ∨ k1 = 1 ∨ k1 = 2 ∨ k1 = 3 ∨ k1 = 4 ∨ k1 = 5 := by omega
      refine j_goto 152 dX11_total_148 (by decide) ?_
      first | (rcases hbb with rfl | rfl | rfl | rfl | rfl | rfl <;> exact j_ireturn dX11_total_152 rfl rfl ⟨rfl, by rfl⟩) | exact j_ireturn dX11_total_152 rfl rfl ⟨rfl, by rw [toR, if_neg (by rintro rfl; revert hsw; decide), if_neg (by rintro rfl; revert hsw; decide), if_neg (fun w => b2_0.mp c_136 (sub10.mpr w)), if_neg (by simp only [le_i, Int32.reduceToInt]; omega)]⟩
  · refine j_tabIn 56 dX11_total_1 (by decide) (by decide) rfl (by decide) ?_
    refine j_aload_n dX11_total_56 rfl ?_
    refine j_getR dX11_total_57 fl_X11_26 rfl (fcK fc 0 rfl rfl) (fcO fc 0 2 3 (by decide)) ?_
    refine j_getI dX11_total_60 fl_X11_243 rfl (fcK fc 3 rfl rfl) ?_
    rw [fcI fc 3 4 (1) (by decide)]
    exact j_ireturn dX11_total_63 rfl rfl (⟨rfl, rfl⟩)
  · refine j_tabIn 64 dX11_total_1 (by decide) (by decide) rfl (by decide) ?_
    refine j_aload_n dX11_total_64 rfl ?_
    refine j_getI dX11_total_65 fl_X11_246 rfl (fcK fc 0 rfl rfl) ?_
    rw [fcI fc 0 12 (0) (by decide)]
    exact j_ireturn dX11_total_68 rfl rfl (⟨rfl, rfl⟩)
  · refine j_tabIn 69 dX11_total_1 (by decide) (by decide) rfl (by decide) ?_
    refine j_aload_n dX11_total_69 rfl ?_
    refine j_callV0 dX11_total_70 vl_X11_249 (d_head fc) (fcK fc 0 rfl rfl) rfl (by decide) (by omega) (by omega) (Nat.le_of_ble_eq_true rfl) (fun v_70 u_70 p_70 => ?_)
    obtain ⟨e_70, rfl⟩ := p_70
    rw [e_70]
    clear e_70
    dsimp only [rs]
    exact j_ireturn dX11_total_73 rfl rfl (⟨rfl, rfl⟩)
  · refine j_tabIn 74 dX11_total_1 (by decide) (by decide) rfl (by decide) ?_
    refine j_aload_n dX11_total_74 rfl ?_
    refine j_getR dX11_total_75 fl_X11_46 rfl (fcK fc 0 rfl rfl) (fcO fc 0 4 5 (by decide)) ?_
    refine j_callV0 dX11_total_78 vl_X11_239 (d_unsettled (fcK fc 5 rfl rfl) (fcI fc 5 2 0 (by decide))) (fcK fc 5 rfl rfl) rfl (by decide) (by omega) (by omega) (Nat.le_of_ble_eq_true rfl) (fun v_78 u_78 p_78 => ?_)
    obtain ⟨e_78, rfl⟩ := p_78
    rw [e_78]
    clear e_78
    dsimp only [rs]
    exact j_ireturn dX11_total_81 rfl rfl (⟨rfl, rfl⟩)
  · refine j_tabIn 82 dX11_total_1 (by decide) (by decide) rfl (by decide) ?_
    refine j_aload_n dX11_total_82 rfl ?_
    refine j_getR dX11_total_83 fl_X11_53 rfl (fcK fc 0 rfl rfl) (fcO fc 0 5 6 (by decide)) ?_
    refine j_getI dX11_total_86 fl_X11_220 rfl (fcK fc 6 rfl rfl) ?_
    rw [fcI fc 6 2 (0) (by decide)]
    exact j_ireturn dX11_total_89 rfl rfl (⟨rfl, rfl⟩)
  · refine j_tabIn 90 dX11_total_1 (by decide) (by decide) rfl (by decide) ?_
    refine j_aload_n dX11_total_90 rfl ?_
    refine j_getR dX11_total_91 fl_X11_53 rfl (fcK fc 0 rfl rfl) (fcO fc 0 5 6 (by decide)) ?_
    refine j_getI dX11_total_94 fl_X11_233 rfl (fcK fc 6 rfl rfl) ?_
    rw [fcI fc 6 3 (0) (by decide)]
    exact j_ireturn dX11_total_97 rfl rfl (⟨rfl, rfl⟩)
  · refine j_tabIn 98 dX11_total_1 (by decide) (by decide) rfl (by decide) ?_
    refine j_aload_n dX11_total_98 rfl ?_
    refine j_getI dX11_total_99 fl_X11_135 rfl (fcK fc 0 rfl rfl) ?_
    rw [fcI fc 0 14 (0) (by decide)]
    exact j_ireturn dX11_total_102 rfl rfl (⟨rfl, rfl⟩)
  · refine j_tabIn 103 dX11_total_1 (by decide) (by decide) rfl (by decide) ?_
    refine j_aload_n dX11_total_103 rfl ?_
    refine j_getR dX11_total_104 fl_X11_10 rfl (fcK fc 0 rfl rfl) (fcO fc 0 0 1 (by decide)) ?_
    refine j_getI dX11_total_107 fl_X11_108 rfl (fcK fc 1 rfl rfl) ?_
    rw [fcI fc 1 3 (0) (by decide)]
    exact j_ireturn dX11_total_110 rfl rfl (⟨rfl, rfl⟩)
  · refine j_tabIn 111 dX11_total_1 (by decide) (by decide) rfl (by decide) ?_
    refine j_aload_n dX11_total_111 rfl ?_
    refine j_getI dX11_total_112 fl_X11_272 rfl (fcK fc 0 rfl rfl) ?_
    rw [fcI fc 0 15 (0) (by decide)]
    exact j_ireturn dX11_total_115 rfl rfl (⟨rfl, rfl⟩)
  · refine j_tabIn 116 dX11_total_1 (by decide) (by decide) rfl (by decide) ?_
    refine j_aload_n dX11_total_116 rfl ?_
    refine j_callV0 dX11_total_117 vl_X11_260 (d_isLikeHead fc) (fcK fc 0 rfl rfl) rfl (by decide) (by omega) (by omega) (Nat.le_of_ble_eq_true rfl) (fun v_117 u_117 p_117 => ?_)
    obtain ⟨e_117, rfl⟩ := p_117
    rw [e_117]
    clear e_117
    dsimp only [rs]
    refine j_if_eq 127 dX11_total_120 (by decide) (fun c_120 => ?_) (fun c_120 => ?_)
    · exact absurd c_120 (by decide)
    · refine j_iconst (v := 1) dX11_total_123 (by decide) ?_
      refine j_goto 128 dX11_total_124 (by decide) ?_
      exact j_ireturn dX11_total_128 rfl rfl (⟨rfl, rfl⟩)

set_option maxRecDepth 20000 in
theorem d_sheet40 {h : Hp} {b : Nat → Nat} {w xw : Nat} (y : Int32) (fc : FC h b w xw) : Con mX11_sheet 3 0 0 [vr (some (b 0)), vi (-1), vi y] h (fun v u => u = h ∧ v = some (vi (shR (-1) y))) := by
  refine con_of rfl (Nat.le_of_ble_eq_true rfl) (by decide) ?_
  show J mX11_sheet 3 0 0 _ 0 [some (vr (some (b 0))), some (vi (-1)), some (vi y), none] [] h
  refine j_aload_n dX11_sheet_0 rfl ?_
  refine j_iload_n dX11_sheet_1 rfl ?_
  refine j_callV1 dX11_sheet_2 vl_X11_312 (d_sheetOf (-1) fc) (fcK fc 0 rfl rfl) rfl (by decide) (by omega) (by omega) (Nat.le_of_ble_eq_true rfl) (fun v_2 u_2 p_2 => ?_)
  obtain ⟨e_, rfl⟩ := p_2
  rw [e_]
  clear e_
  rw [show shF b w (-1) = some (w) from rfl]
  dsimp only [rs]
  refine j_astore_n dX11_sheet_5 (by decide) ?_
  dsimp only [st1, st2, unL, List.set]
  skip
  refine j_aload_n dX11_sheet_6 rfl ?_
  refine j_ifnonnull 12 dX11_sheet_7 (by decide) (fun c_7 => ?_) (fun c_7 => ?_)
  · refine j_iload_n dX11_sheet_12 rfl ?_
    rcases sw_3 y with hsw | rfl | rfl | rfl | rfl
    · refine j_tabOut 100 dX11_sheet_13 hsw (by decide) ?_
      refine j_iconst (v := -1) dX11_sheet_100 (by decide) ?_
      exact j_ireturn dX11_sheet_101 rfl rfl (⟨rfl, by first | rfl | (simp only [shR]; rw [if_pos (by decide), if_neg (by rintro rfl; revert hsw; decide), if_neg (by rintro rfl; revert hsw; decide), if_neg (by rintro rfl; revert hsw; decide)])⟩)
    · refine j_tabIn 44 dX11_sheet_13 (by decide) (by decide) rfl (by decide) ?_
      refine j_aload_n dX11_sheet_44 rfl ?_
      refine j_getR dX11_sheet_45 fl_X11_190 rfl (fcS fc).1 (fcS fc).2.1 ?_
      refine j_alen dX11_sheet_48 (t := 1) (fcK fc 36 rfl rfl) (by decide) ?_
      rw [fcN fc 36 (c := 8) rfl rfl]
      exact j_ireturn dX11_sheet_49 rfl rfl (⟨rfl, by first | rfl | (simp only [shR]; rw [if_pos (by decide), if_neg (by rintro rfl; revert hsw; decide), if_neg (by rintro rfl; revert hsw; decide), if_neg (by rintro rfl; revert hsw; decide)])⟩)
    · refine j_tabIn 50 dX11_sheet_13 (by decide) (by decide) rfl (by decide) ?_
      refine j_aload_n dX11_sheet_50 rfl ?_
      refine j_getR dX11_sheet_51 fl_X11_197 rfl (fcS fc).1 (fcS fc).2.2.1 ?_
      refine j_alen dX11_sheet_54 (t := 1) (fcK fc 37 rfl rfl) (by decide) ?_
      rw [fcN fc 37 (c := 6) rfl rfl]
      exact j_ireturn dX11_sheet_55 rfl rfl (⟨rfl, by first | rfl | (simp only [shR]; rw [if_pos (by decide), if_neg (by rintro rfl; revert hsw; decide), if_neg (by rintro rfl; revert hsw; decide), if_neg (by rintro rfl; revert hsw; decide)])⟩)
    · refine j_tabIn 56 dX11_sheet_13 (by decide) (by decide) rfl (by decide) ?_
      refine j_iload_n dX11_sheet_56 rfl ?_
      refine j_iconst (v := -1) dX11_sheet_57 (by decide) ?_
      refine j_icmp_ne 68 dX11_sheet_58 (by decide) (fun c_58 => ?_) (fun c_58 => ?_)
      · exact absurd c_58 (by decide)
      · refine j_aload_n dX11_sheet_61 rfl ?_
        refine j_callV0 dX11_sheet_62 vl_X11_249 (d_head fc) (fcK fc 0 rfl rfl) rfl (by decide) (by omega) (by omega) (Nat.le_of_ble_eq_true rfl) (fun v_62 u_62 p_62 => ?_)
        obtain ⟨e_62, rfl⟩ := p_62
        rw [e_62]
        clear e_62
        dsimp only [rs]
        refine j_goto 77 dX11_sheet_65 (by decide) ?_
        exact j_ireturn dX11_sheet_77 rfl rfl (⟨rfl, by first | rfl | (simp only [shR]; rw [if_pos (by decide), if_neg (by rintro rfl; revert hsw; decide), if_neg (by rintro rfl; revert hsw; decide), if_neg (by rintro rfl; revert hsw; decide)])⟩)
    · refine j_tabIn 78 dX11_sheet_13 (by decide) (by decide) rfl (by decide) ?_
      refine j_iload_n dX11_sheet_78 rfl ?_
      refine j_iconst (v := -1) dX11_sheet_79 (by decide) ?_
      refine j_icmp_ne 90 dX11_sheet_80 (by decide) (fun c_80 => ?_) (fun c_80 => ?_)
      · exact absurd c_80 (by decide)
      · refine j_aload_n dX11_sheet_83 rfl ?_
        refine j_getI dX11_sheet_84 fl_X11_77 rfl (fcK fc 0 rfl rfl) ?_
        rw [fcI fc 0 13 (-1) (by decide)]
        refine j_goto 99 dX11_sheet_87 (by decide) ?_
        exact j_ireturn dX11_sheet_99 rfl rfl (⟨rfl, by first | rfl | (simp only [shR]; rw [if_pos (by decide), if_neg (by rintro rfl; revert hsw; decide), if_neg (by rintro rfl; revert hsw; decide), if_neg (by rintro rfl; revert hsw; decide)])⟩)
  · exact absurd c_7 (fun e => by cases e)

set_option maxRecDepth 20000 in
theorem d_sheet0 {h : Hp} {b : Nat → Nat} {w xw : Nat} (y : Int32) (fc : FC h b w xw) : Con mX11_sheet 3 0 0 [vr (some (b 0)), vi 0, vi y] h (fun v u => u = h ∧ v = some (vi (shR 0 y))) := by
  refine con_of rfl (Nat.le_of_ble_eq_true rfl) (by decide) ?_
  show J mX11_sheet 3 0 0 _ 0 [some (vr (some (b 0))), some (vi 0), some (vi y), none] [] h
  refine j_aload_n dX11_sheet_0 rfl ?_
  refine j_iload_n dX11_sheet_1 rfl ?_
  refine j_callV1 dX11_sheet_2 vl_X11_312 (d_sheetOf 0 fc) (fcK fc 0 rfl rfl) rfl (by decide) (by omega) (by omega) (Nat.le_of_ble_eq_true rfl) (fun v_2 u_2 p_2 => ?_)
  obtain ⟨e_, rfl⟩ := p_2
  rw [e_]
  clear e_
  rw [show shF b w 0 = some (b 35) from rfl]
  dsimp only [rs]
  refine j_astore_n dX11_sheet_5 (by decide) ?_
  dsimp only [st1, st2, unL, List.set]
  skip
  refine j_aload_n dX11_sheet_6 rfl ?_
  refine j_ifnonnull 12 dX11_sheet_7 (by decide) (fun c_7 => ?_) (fun c_7 => ?_)
  · refine j_iload_n dX11_sheet_12 rfl ?_
    rcases sw_3 y with hsw | rfl | rfl | rfl | rfl
    · refine j_tabOut 100 dX11_sheet_13 hsw (by decide) ?_
      refine j_iconst (v := -1) dX11_sheet_100 (by decide) ?_
      exact j_ireturn dX11_sheet_101 rfl rfl (⟨rfl, by first | rfl | (simp only [shR]; rw [if_pos (by decide), if_neg (by rintro rfl; revert hsw; decide), if_neg (by rintro rfl; revert hsw; decide), if_neg (by rintro rfl; revert hsw; decide)])⟩)
    · refine j_tabIn 44 dX11_sheet_13 (by decide) (by decide) rfl (by decide) ?_
      refine j_aload_n dX11_sheet_44 rfl ?_
      refine j_getR dX11_sheet_45 fl_X11_190 rfl (fcS0 fc).1 (fcS0 fc).2.1 ?_
      refine j_alen dX11_sheet_48 (t := 1) (fcK fc 36 rfl rfl) (by decide) ?_
      rw [fcN fc 36 (c := 8) rfl rfl]
      exact j_ireturn dX11_sheet_49 rfl rfl (⟨rfl, by first | rfl | (simp only [shR]; rw [if_pos (by decide), if_neg (by rintro rfl; revert hsw; decide), if_neg (by rintro rfl; revert hsw; decide), if_neg (by rintro rfl; revert hsw; decide)])⟩)
    · refine j_tabIn 50 dX11_sheet_13 (by decide) (by decide) rfl (by decide) ?_
      refine j_aload_n dX11_sheet_50 rfl ?_
      refine j_getR dX11_sheet_51 fl_X11_197 rfl (fcS0 fc).1 (fcS0 fc).2.2.1 ?_
      refine j_alen dX11_sheet_54 (t := 1) (fcK fc 37 rfl rfl) (by decide) ?_
      rw [fcN fc 37 (c := 6) rfl rfl]
      exact j_ireturn dX11_sheet_55 rfl rfl (⟨rfl, by first | rfl | (simp only [shR]; rw [if_pos (by decide), if_neg (by rintro rfl; revert hsw; decide), if_neg (by rintro rfl; revert hsw; decide), if_neg (by rintro rfl; revert hsw; decide)])⟩)
    · refine j_tabIn 56 dX11_sheet_13 (by decide) (by decide) rfl (by decide) ?_
      refine j_iload_n dX11_sheet_56 rfl ?_
      refine j_iconst (v := -1) dX11_sheet_57 (by decide) ?_
      refine j_icmp_ne 68 dX11_sheet_58 (by decide) (fun c_58 => ?_) (fun c_58 => ?_)
      · refine j_aload_n dX11_sheet_68 rfl ?_
        refine j_getR dX11_sheet_69 fl_X11_26 rfl (fcK fc 0 rfl rfl) (fcO fc 0 2 3 (by decide)) ?_
        refine j_getR dX11_sheet_72 fl_X11_285 rfl (fcK fc 3 rfl rfl) (fcO fc 3 1 19 (by decide)) ?_
        refine j_iload_n dX11_sheet_75 rfl ?_
        refine j_iald 0 dX11_sheet_76 (fcK fc 19 rfl rfl) rfl (by rw [fcN fc 19 (c := 40) rfl rfl]; decide) (by rw [fcN fc 19 (c := 40) rfl rfl]; decide) ?_
        rw [fcI fc 19 0 (-1) (by decide)]
        exact j_ireturn dX11_sheet_77 rfl rfl (⟨rfl, by first | rfl | (simp only [shR]; rw [if_pos (by decide), if_neg (by rintro rfl; revert hsw; decide), if_neg (by rintro rfl; revert hsw; decide), if_neg (by rintro rfl; revert hsw; decide)])⟩)
      · exact absurd (by decide) c_58
    · refine j_tabIn 78 dX11_sheet_13 (by decide) (by decide) rfl (by decide) ?_
      refine j_iload_n dX11_sheet_78 rfl ?_
      refine j_iconst (v := -1) dX11_sheet_79 (by decide) ?_
      refine j_icmp_ne 90 dX11_sheet_80 (by decide) (fun c_80 => ?_) (fun c_80 => ?_)
      · refine j_aload_n dX11_sheet_90 rfl ?_
        refine j_getR dX11_sheet_91 fl_X11_26 rfl (fcK fc 0 rfl rfl) (fcO fc 0 2 3 (by decide)) ?_
        refine j_getR dX11_sheet_94 fl_X11_338 rfl (fcK fc 3 rfl rfl) (fcO fc 3 2 20 (by decide)) ?_
        refine j_iload_n dX11_sheet_97 rfl ?_
        refine j_iald 0 dX11_sheet_98 (fcK fc 20 rfl rfl) rfl (by rw [fcN fc 20 (c := 40) rfl rfl]; decide) (by rw [fcN fc 20 (c := 40) rfl rfl]; decide) ?_
        rw [fcI fc 20 0 (-1) (by decide)]
        exact j_ireturn dX11_sheet_99 rfl rfl (⟨rfl, by first | rfl | (simp only [shR]; rw [if_pos (by decide), if_neg (by rintro rfl; revert hsw; decide), if_neg (by rintro rfl; revert hsw; decide), if_neg (by rintro rfl; revert hsw; decide)])⟩)
      · exact absurd (by decide) c_80
  · exact absurd c_7 (fun e => by cases e)

set_option maxRecDepth 20000 in
theorem d_sheetN {h : Hp} {b : Nat → Nat} {w xw : Nat} (x y : Int32) (fc : FC h b w xw) (hn : ¬ (-1 ≤ x ∧ x ≤ 0)) : Con mX11_sheet 3 0 0 [vr (some (b 0)), vi x, vi y] h (fun v u => u = h ∧ v = some (vi (shR x y))) := by
  refine con_of rfl (Nat.le_of_ble_eq_true rfl) (by decide) ?_
  show J mX11_sheet 3 0 0 _ 0 [some (vr (some (b 0))), some (vi x), some (vi y), none] [] h
  refine j_aload_n dX11_sheet_0 rfl ?_
  refine j_iload_n dX11_sheet_1 rfl ?_
  refine j_callV1 dX11_sheet_2 vl_X11_312 (d_sheetOf x fc) (fcK fc 0 rfl rfl) rfl (by decide) (by omega) (by omega) (Nat.le_of_ble_eq_true rfl) (fun v_2 u_2 p_2 => ?_)
  obtain ⟨e_2, rfl⟩ := p_2
  rw [e_2]
  clear e_2
  dsimp only [rs]
  rw [show shF b w x = none by rw [shF, if_neg (by rintro rfl; exact hn (by decide)), if_neg (by rintro rfl; exact hn (by decide))]]
  refine j_astore_n dX11_sheet_5 (by decide) ?_
  dsimp only [st1, st2, unL, List.set]
  refine j_aload_n dX11_sheet_6 rfl ?_
  refine j_ifnonnull 12 dX11_sheet_7 (by decide) (fun c_7 => ?_) (fun c_7 => ?_)
  · exact absurd c_7 (fun e => e rfl)
  · refine j_iconst (v := -1) dX11_sheet_10 (by decide) ?_
    exact j_ireturn dX11_sheet_11 rfl rfl (⟨rfl, by rw [shR, if_neg hn]⟩)

theorem x01 {x : Int32} (h : -1 ≤ x ∧ x ≤ 0) : x = -1 ∨ x = 0 := by
  by_cases q : x = 0
  · exact Or.inr q
  · left; rw [eq_i] at q ⊢; simp only [le_i, Int32.reduceToInt, show ((-1 : Int32)).toInt = -1 from rfl] at *; omega
theorem d_sheet {h : Hp} {b : Nat → Nat} {w xw : Nat} (x y : Int32) (fc : FC h b w xw) : Con mX11_sheet 3 0 0 [vr (some (b 0)), vi x, vi y] h (fun v u => u = h ∧ v = some (vi (shR x y))) := by
  by_cases q : -1 ≤ x ∧ x ≤ 0
  · rcases x01 q with rfl | rfl
    · exact d_sheet40 y fc
    · exact d_sheet0 y fc
  · exact d_sheetN x y fc q
theorem plC {h : Hp} {b : Nat → Nat} {w xw : Nat} (fc : FC h b w xw) {i : Nat} (hi : i < 8) : pl1 (hI h (b 36)) (nI (i + 1)) (hN h (b 36)) = i + 1 := by
  rw [fcN fc 36 (c := 8) rfl rfl]
  exact pl1_at (fun j hj => by rw [fc.2.2.2.2.2.1 j (by omega), Ne, nI_eq (by omega) (by omega)]; omega) (fc.2.2.2.2.2.1 i hi) hi
theorem plD {h : Hp} {b : Nat → Nat} {w xw : Nat} (fc : FC h b w xw) {i : Nat} (hi : i < 6) : pl1 (hI h (b 37)) (nI (i + 1)) (hN h (b 37)) = i + 1 := by
  rw [fcN fc 37 (c := 6) rfl rfl]
  exact pl1_at (fun j hj => by rw [fc.2.2.2.2.2.2.1 j (by omega), Ne, nI_eq (by omega) (by omega)]; omega) (fc.2.2.2.2.2.2.1 i hi) hi
set_option maxRecDepth 20000 in
theorem d_holds0 {h : Hp} {b : Nat → Nat} {w xw : Nat} {i j : Nat} (fc : FC h b w xw) (hi : i < 8) (hj : j < 6) : Con mX2_holds 4 0 0 [vr (some (b 3)), vi 0, vi (nI (i + 1)), vi (nI (j + 1)), vr none] h (fun v u => u = h ∧ v = some (vi 1)) := by
  refine con_of rfl (Nat.le_of_ble_eq_true rfl) (by decide) ?_
  show J mX2_holds 4 0 0 _ 0 [some (vr (some (b 3))), some (vi 0), some (vi (nI (i + 1))), some (vi (nI (j + 1))), some (vr none), none] [] h
  refine j_aload_n dX2_holds_0 rfl ?_
  refine j_iload_n dX2_holds_1 rfl ?_
  refine j_callV1 dX2_holds_2 vl_X2_42 (c_logAt _ (fcLg fc)) (fcK fc 3 rfl rfl) rfl (by decide) (by omega) (by omega) (Nat.le_of_ble_eq_true rfl) (fun v_2 u_2 p_2 => ?_)
  obtain ⟨e_2, rfl⟩ := p_2
  rw [e_2]
  clear e_2
  dsimp only [rs]
  rw [shV_0 fc]
  refine j_astore dX2_holds_5 (by decide) ?_
  dsimp only [st1, st2, unL, List.set]
  refine j_aload dX2_holds_7 rfl ?_
  refine j_ifnull 41 dX2_holds_9 (by decide) (fun c_9 => ?_) (fun c_9 => ?_)
  · exact absurd c_9 (fun e => by cases e)
  · refine j_aload dX2_holds_12 rfl ?_
    refine j_iload_n dX2_holds_14 rfl ?_
    refine j_iload_n dX2_holds_15 rfl ?_
    refine j_callV2 dX2_holds_16 vl_X2_46 (c_knows _ _ (fcS0 fc)) (by first | exact fcK fc 3 rfl rfl | exact (fcS0 fc).1) rfl (by decide) (by omega) (by omega) (Nat.le_of_ble_eq_true rfl) (fun v_16 u_16 p_16 => ?_)
    obtain ⟨e_16, rfl⟩ := p_16
    rw [e_16]
    clear e_16
    dsimp only [rs]
    refine j_if_eq 41 dX2_holds_19 (by decide) (fun c_19 => ?_) (fun c_19 => ?_)
    · exact absurd c_19 (b2_n.mpr (by rw [plC fc hi, plD fc hj]; omega))
    · refine j_aload dX2_holds_22 rfl ?_
      refine j_iload_n dX2_holds_24 rfl ?_
      refine j_iload_n dX2_holds_25 rfl ?_
      refine j_callV2 dX2_holds_26 vl_X2_50 (c_of _ _ (fcS0 fc)) (by first | exact fcK fc 3 rfl rfl | exact (fcS0 fc).1) rfl (by decide) (by omega) (by omega) (Nat.le_of_ble_eq_true rfl) (fun v_26 u_26 p_26 => ?_)
      obtain ⟨e_26, rfl⟩ := p_26
      rw [e_26]
      clear e_26
      dsimp only [rs]
      rw [show atG h (b 38) 6 (pl1 (hI h (b 36)) (nI (i + 1)) (hN h (b 36))) (pl1 (hI h (b 37)) (nI (j + 1)) (hN h (b 37))) = none by rw [plC fc hi, plD fc hj, atG, if_neg (by omega)]; exact fcX0 fc _]
      refine j_aload dX2_holds_29 rfl ?_
      refine j_callS2 dX2_holds_31 sl_X2_54 c_alikeN rfl (by decide) (by omega) (by omega) (Nat.le_of_ble_eq_true rfl) (fun v_31 u_31 p_31 => ?_)
      obtain ⟨e_31, rfl⟩ := p_31
      rw [e_31]
      clear e_31
      dsimp only [rs]
      refine j_if_eq 41 dX2_holds_34 (by decide) (fun c_34 => ?_) (fun c_34 => ?_)
      · exact absurd c_34 (by decide)
      · refine j_iconst (v := 1) dX2_holds_37 (by decide) ?_
        refine j_goto 42 dX2_holds_38 (by decide) ?_
        exact j_ireturn dX2_holds_42 rfl rfl (⟨rfl, rfl⟩)

set_option maxRecDepth 20000 in
theorem d_holdsN {h : Hp} {b : Nat → Nat} {w xw : Nat} {r c : Int32} (fc : FC h b w xw) : Con mX2_holds 4 0 0 [vr (some (b 3)), vi (-1), vi r, vi c, vr none] h (fun v u => u = h ∧ v = some (vi 0)) := by
  refine con_of rfl (Nat.le_of_ble_eq_true rfl) (by decide) ?_
  show J mX2_holds 4 0 0 _ 0 [some (vr (some (b 3))), some (vi (-1)), some (vi r), some (vi c), some (vr none), none] [] h
  refine j_aload_n dX2_holds_0 rfl ?_
  refine j_iload_n dX2_holds_1 rfl ?_
  refine j_callV1 dX2_holds_2 vl_X2_42 (c_logAt _ (fcLg fc)) (fcK fc 3 rfl rfl) rfl (by decide) (by omega) (by omega) (Nat.le_of_ble_eq_true rfl) (fun v_2 u_2 p_2 => ?_)
  obtain ⟨e_2, rfl⟩ := p_2
  rw [e_2]
  clear e_2
  dsimp only [rs]
  rw [shV_n (by decide)]
  refine j_astore dX2_holds_5 (by decide) ?_
  dsimp only [st1, st2, unL, List.set]
  refine j_aload dX2_holds_7 rfl ?_
  refine j_ifnull 41 dX2_holds_9 (by decide) (fun c_9 => ?_) (fun c_9 => ?_)
  · refine j_iconst (v := 0) dX2_holds_41 (by decide) ?_
    exact j_ireturn dX2_holds_42 rfl rfl (⟨rfl, rfl⟩)
  · exact absurd rfl c_9

set_option maxRecDepth 20000 in
theorem d_blame {h : Hp} {b : Nat → Nat} {w xw : Nat} (x y : Int32) (fc : FC h b w xw) : ConX mX11_blame 6 1 6 [vr (some (b 0)), vi x, vi y] h (px h b w xw ["java/lang/IndexOutOfBoundsException"] (if inSh 8 6 x y then 0 else 1) (0)) := by
  refine con_ofX rfl (Nat.le_of_ble_eq_true rfl) (by decide) (by decide) ?_
  show J mX11_blame 6 1 6 _ 0 [some (vr (some (b 0))), some (vi x), some (vi y), none, none, none, none, none] [] h
  refine j_aload_n dX11_blame_0 rfl ?_
  refine j_getR dX11_blame_1 fl_X11_104 rfl (fcK fc 0 rfl rfl) (fcW fc) ?_
  refine j_iload_n dX11_blame_4 rfl ?_
  refine j_iload_n dX11_blame_5 rfl ?_
  refine j_callV2 dX11_blame_6 vl_X11_113 (c_has _ _ (fcS fc)) (fcS fc).1 rfl (by decide) (by omega) (by omega) (Nat.le_of_ble_eq_true rfl) (fun v_6 u_6 p_6 => ?_)
  obtain ⟨e_6, rfl⟩ := p_6
  rw [e_6]
  clear e_6
  dsimp only [rs]
  refine j_if_ne 20 dX11_blame_9 (by decide) (fun c_9 => ?_) (fun c_9 => ?_)
  · have q := b2_n.mp c_9
    obtain ⟨i0, hi0, hx, -⟩ := nI_ex (n := 8) (by omega) q.2.1
    obtain ⟨j0, hj0, hy, -⟩ := nI_ex (n := 6) (by omega) q.2.2.2
    subst hx
    subst hy
    have q0 := q
    simp only [inSh, nI_toInt (n := i0) (by omega), nI_toInt (n := j0) (by omega)] at q
    obtain ⟨i, rfl⟩ : ∃ i, i0 = i + 1 := ⟨i0 - 1, by omega⟩
    obtain ⟨j, rfl⟩ : ∃ j, j0 = j + 1 := ⟨j0 - 1, by omega⟩
    refine j_aload_n dX11_blame_20 rfl ?_
    refine j_getR dX11_blame_21 fl_X11_104 rfl (fcK fc 0 rfl rfl) (fcW fc) ?_
    refine j_getR dX11_blame_24 fl_X11_190 rfl (fcS fc).1 (fcS fc).2.1 ?_
    refine j_iload_n dX11_blame_27 rfl ?_
    refine j_iconst (v := 1) dX11_blame_28 (by decide) ?_
    refine j_isub dX11_blame_29 ?_
    rw [nI_pred]
    refine j_iald i dX11_blame_30 (fcK fc 36 rfl rfl) rfl (by rw [fcN fc 36 (c := 8) rfl rfl]; omega) (by rw [fcN fc 36 (c := 8) rfl rfl]; decide) ?_
    rw [fc.2.2.2.2.2.1 i (by omega)]
    refine j_istore_n dX11_blame_31 (by decide) ?_
    dsimp only [st1, st2, unL, List.set]
    refine j_aload_n dX11_blame_32 rfl ?_
    refine j_getR dX11_blame_33 fl_X11_104 rfl (fcK fc 0 rfl rfl) (fcW fc) ?_
    refine j_getR dX11_blame_36 fl_X11_197 rfl (fcS fc).1 (fcS fc).2.2.1 ?_
    refine j_iload_n dX11_blame_39 rfl ?_
    refine j_iconst (v := 1) dX11_blame_40 (by decide) ?_
    refine j_isub dX11_blame_41 ?_
    rw [nI_pred]
    refine j_iald j dX11_blame_42 (fcK fc 37 rfl rfl) rfl (by rw [fcN fc 37 (c := 6) rfl rfl]; omega) (by rw [fcN fc 37 (c := 6) rfl rfl]; decide) ?_
    rw [fc.2.2.2.2.2.2.1 j (by omega)]
    refine j_istore dX11_blame_43 (by decide) ?_
    dsimp only [st1, st2, unL, List.set]
    refine j_aload_n dX11_blame_45 rfl ?_
    refine j_getR dX11_blame_46 fl_X11_104 rfl (fcK fc 0 rfl rfl) (fcW fc) ?_
    refine j_iload_n dX11_blame_49 rfl ?_
    refine j_iload_n dX11_blame_50 rfl ?_
    refine j_callV2 dX11_blame_51 vl_X11_152 (c_at i j (by omega) (by omega) (fcS fc)) (fcS fc).1 rfl (by decide) (by omega) (by omega) (Nat.le_of_ble_eq_true rfl) (fun v_51 u_51 p_51 => ?_)
    obtain ⟨e_51, rfl⟩ := p_51
    rw [e_51]
    clear e_51
    dsimp only [rs]
    rw [fcX fc (i * 6 + j) (by omega)]
    refine j_astore dX11_blame_54 (by decide) ?_
    dsimp only [st1, st2, unL, List.set]
    refine j_aload_n dX11_blame_56 rfl ?_
    refine j_getR dX11_blame_57 fl_X11_26 rfl (fcK fc 0 rfl rfl) (fcO fc 0 2 3 (by decide)) ?_
    refine j_aload_n dX11_blame_60 rfl ?_
    refine j_callV0 dX11_blame_61 vl_X11_249 (d_head fc) (fcK fc 0 rfl rfl) rfl (by decide) (by omega) (by omega) (Nat.le_of_ble_eq_true rfl) (fun v_61 u_61 p_61 => ?_)
    obtain ⟨e_61, rfl⟩ := p_61
    rw [e_61]
    clear e_61
    dsimp only [rs]
    refine j_iload_n dX11_blame_64 rfl ?_
    refine j_iload dX11_blame_65 rfl ?_
    refine j_aload dX11_blame_67 rfl ?_
    refine j_callV4 dX11_blame_69 vl_X11_334 (d_holds0 fc (by omega) (by omega)) (fcK fc 3 rfl rfl) rfl (by decide) (by omega) (by omega) (Nat.le_of_ble_eq_true rfl) (fun v_69 u_69 p_69 => ?_)
    obtain ⟨e_69, rfl⟩ := p_69
    rw [e_69]
    clear e_69
    dsimp only [rs]
    refine j_if_ne 77 dX11_blame_72 (by decide) (fun c_72 => ?_) (fun c_72 => ?_)
    · refine j_aload_n dX11_blame_77 rfl ?_
      refine j_callV0 dX11_blame_78 vl_X11_249 (d_head fc) (fcK fc 0 rfl rfl) rfl (by decide) (by omega) (by omega) (Nat.le_of_ble_eq_true rfl) (fun v_78 u_78 p_78 => ?_)
      obtain ⟨e_78, rfl⟩ := p_78
      rw [e_78]
      clear e_78
      dsimp only [rs]
      refine j_istore dX11_blame_81 (by decide) ?_
      dsimp only [st1, st2, unL, List.set]
      refine j_iconst (v := 0) dX11_blame_83 (by decide) ?_
      refine j_istore dX11_blame_84 (by decide) ?_
      dsimp only [st1, st2, unL, List.set]
      refine j_iload dX11_blame_86 rfl ?_
      refine j_bipush (v := 40) dX11_blame_88 (by decide) ?_
      refine j_icmp_ge 182 dX11_blame_90 (by decide) (fun c_90 => ?_) (fun c_90 => ?_)
      · exact absurd c_90 (by decide)
      · refine j_aload_n dX11_blame_93 rfl ?_
        refine j_getR dX11_blame_94 fl_X11_26 rfl (fcK fc 0 rfl rfl) (fcO fc 0 2 3 (by decide)) ?_
        refine j_aload_n dX11_blame_97 rfl ?_
        refine j_getR dX11_blame_98 fl_X11_26 rfl (fcK fc 0 rfl rfl) (fcO fc 0 2 3 (by decide)) ?_
        refine j_getR dX11_blame_101 fl_X11_285 rfl (fcK fc 3 rfl rfl) (fcO fc 3 1 19 (by decide)) ?_
        refine j_iload dX11_blame_104 rfl ?_
        refine j_iald 0 dX11_blame_106 (fcK fc 19 rfl rfl) rfl (by rw [fcN fc 19 (c := 40) rfl rfl]; decide) (by rw [fcN fc 19 (c := 40) rfl rfl]; decide) ?_
        rw [fcI fc 19 0 (-1) (by decide)]
        refine j_iload_n dX11_blame_107 rfl ?_
        refine j_iload dX11_blame_108 rfl ?_
        refine j_aload dX11_blame_110 rfl ?_
        refine j_callV4 dX11_blame_112 vl_X11_334 (d_holdsN fc) (fcK fc 3 rfl rfl) rfl (by decide) (by omega) (by omega) (Nat.le_of_ble_eq_true rfl) (fun v_112 u_112 p_112 => ?_)
        obtain ⟨e_112, rfl⟩ := p_112
        rw [e_112]
        clear e_112
        dsimp only [rs]
        refine j_if_eq 133 dX11_blame_115 (by decide) (fun c_115 => ?_) (fun c_115 => ?_)
        · refine j_aload_n dX11_blame_133 rfl ?_
          refine j_getR dX11_blame_134 fl_X11_26 rfl (fcK fc 0 rfl rfl) (fcO fc 0 2 3 (by decide)) ?_
          refine j_aload_n dX11_blame_137 rfl ?_
          refine j_getR dX11_blame_138 fl_X11_26 rfl (fcK fc 0 rfl rfl) (fcO fc 0 2 3 (by decide)) ?_
          refine j_getR dX11_blame_141 fl_X11_338 rfl (fcK fc 3 rfl rfl) (fcO fc 3 2 20 (by decide)) ?_
          refine j_iload dX11_blame_144 rfl ?_
          refine j_iald 0 dX11_blame_146 (fcK fc 20 rfl rfl) rfl (by rw [fcN fc 20 (c := 40) rfl rfl]; decide) (by rw [fcN fc 20 (c := 40) rfl rfl]; decide) ?_
          rw [fcI fc 20 0 (-1) (by decide)]
          refine j_iload_n dX11_blame_147 rfl ?_
          refine j_iload dX11_blame_148 rfl ?_
          refine j_aload dX11_blame_150 rfl ?_
          refine j_callV4 dX11_blame_152 vl_X11_334 (d_holdsN fc) (fcK fc 3 rfl rfl) rfl (by decide) (by omega) (by omega) (Nat.le_of_ble_eq_true rfl) (fun v_152 u_152 p_152 => ?_)
          obtain ⟨e_152, rfl⟩ := p_152
          rw [e_152]
          clear e_152
          dsimp only [rs]
          refine j_if_eq 173 dX11_blame_155 (by decide) (fun c_155 => ?_) (fun c_155 => ?_)
          · refine j_iload dX11_blame_173 rfl ?_
            exact j_ireturn dX11_blame_175 rfl rfl ⟨Fr_rf, if_pos q0, rfl⟩
          · exact absurd rfl c_155
        · exact absurd rfl c_115
    · exact absurd (by decide) c_72
  · exact j_throw (E := "java/lang/IndexOutOfBoundsException") ⟨117, 119, by decide, dX11_blame_12, dX11_blame_15, dX11_blame_16, dX11_blame_19⟩ (by omega) (by omega) (Nat.le_of_ble_eq_true rfl) ⟨Fr_rf, by rw [if_neg (b2_0.mp (Classical.not_not.mp c_9))]; decide, by rw [if_neg (b2_0.mp (Classical.not_not.mp c_9))]; rfl⟩

