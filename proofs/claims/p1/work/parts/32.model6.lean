/-! ===== the model on a fresh object: lines put in, taken out, moved; cells erased ===== -/
abbrev KM (g : Nat → Nat) (u : Hp) : Prop := MW u g ∧ hI u (g 0) 0 = 0
set_option maxRecDepth 20000 in
theorem l_ins0 {g : Nat → Nat} {a : Nat} (ha : a < 9) : ∀ (n : Nat) (i : Nat) (u : Hp), 9 - i < n → i ≤ 8 ∧ KM g u → J mX12_insert 4 0 0 (nx (an g 9 0)) 85 [some (vr (some (g 0))), some (vi 0), some (vi (nI (a + 1))), some (vi 8), some (vi 41), some (vi (nI (i + 1)))] [] u := by
  intro n
  induction n with
  | zero => intro i u hlt; omega
  | succ n ih =>
    intro i u hlt hinv
    obtain ⟨hi, hm, y0⟩ := hinv
    refine j_iload dX12_insert_85 rfl ?_
    refine j_iload_n dX12_insert_87 rfl ?_
    refine j_icmp_gt 110 dX12_insert_88 (by decide) (fun c_88 => ?_) (fun c_88 => ?_)
    · refine j_aload_n dX12_insert_110 rfl ?_
      refine j_iload_n dX12_insert_111 rfl ?_
      refine j_iload_n dX12_insert_112 rfl ?_
      refine j_iconst (v := 1) dX12_insert_113 (by decide) ?_
      refine j_isub dX12_insert_114 ?_
      rw [nI_pred]
      refine j_callV2 dX12_insert_115 vl_X12_834 (c_emptyLine0 (b := a) hm (by omega)) hm.1 rfl (by decide) (by omega) (by omega) (Nat.le_of_ble_eq_true rfl) (fun v_115 u_115 p_115 => ?_)
      obtain ⟨rfl, rfl⟩ := p_115
      dsimp only [rs]
      refine j_aload_n dX12_insert_118 rfl ?_
      refine j_bipush (v := 40) dX12_insert_119 (by decide) ?_
      refine j_iload_n dX12_insert_121 rfl ?_
      refine j_iload_n dX12_insert_122 rfl ?_
      refine j_iconst (v := 1) dX12_insert_123 (by decide) ?_
      refine j_isub dX12_insert_124 ?_
      rw [nI_pred]
      refine j_iload_n dX12_insert_125 rfl ?_
      refine j_if_ne 136 dX12_insert_126 (by decide) (fun c_126 => ?_) (fun c_126 => ?_)
      · exact absurd rfl c_126
      · refine j_aload_n dX12_insert_129 rfl ?_
        refine j_getI dX12_insert_130 fl_X12_26 rfl hm.1 ?_
        refine j_goto 140 dX12_insert_133 (by decide) ?_
        refine j_callV4 dX12_insert_140 vl_X12_818 (c_setLine0 40 (by decide) a (by omega) _ hm) hm.1 rfl (by decide) (by omega) (by omega) (Nat.le_of_ble_eq_true rfl) (fun v_140 u_140 p_140 => ?_)
        obtain ⟨rfl, rfl⟩ := p_140
        dsimp only [rs]
        refine j_iload_n dX12_insert_143 rfl ?_
        refine j_if_ne 160 dX12_insert_144 (by decide) (fun c_144 => ?_) (fun c_144 => ?_)
        · exact absurd rfl c_144
        · refine j_aload_n dX12_insert_147 rfl ?_
          refine j_dup dX12_insert_148 rfl ?_
          refine j_getI dX12_insert_149 fl_X12_26 rfl hm.1 ?_
          refine j_iconst (v := 1) dX12_insert_152 (by decide) ?_
          refine j_iadd dX12_insert_153 ?_
          refine j_putI dX12_insert_154 fl_X12_26 rfl rfl rfl hm.1 ?_
          refine j_goto 170 dX12_insert_157 (by decide) ?_
          refine j_iload_n dX12_insert_170 rfl ?_
          refine j_iconst (v := 1) dX12_insert_171 (by decide) ?_
          refine j_iadd dX12_insert_172 ?_
          exact j_ireturn dX12_insert_173 rfl rfl (⟨rfl, hm, by simp [hI_pI, hI_sI, mNe hm (i := 0) (j := 1) rfl rfl rfl, mNe hm (i := 0) (j := 2) rfl rfl rfl, mNe hm (i := 0) (j := 3) rfl rfl rfl, mNe hm (i := 0) (j := 4) rfl rfl rfl, mNe hm (i := 0) (j := 5) rfl rfl rfl]; exact y0⟩)
    · have hlt2 : i + 1 ≤ 8 := by rw [li_8, nI_ltI (by omega) (by omega)] at c_88; omega
      refine j_aload_n dX12_insert_91 rfl ?_
      refine j_iload_n dX12_insert_92 rfl ?_
      refine j_iload dX12_insert_93 rfl ?_
      refine j_iconst (v := 1) dX12_insert_95 (by decide) ?_
      refine j_isub dX12_insert_96 ?_
      rw [nI_pred]
      refine j_iload dX12_insert_97 rfl ?_
      refine j_iload dX12_insert_99 rfl ?_
      refine j_callV4 dX12_insert_101 vl_X12_831 (c_comeLine0 (s := 41) (a := i) (b := i + 1) hm (by decide) (by decide) (by omega) (by omega)) hm.1 rfl (by decide) (by omega) (by omega) (Nat.le_of_ble_eq_true rfl) (fun v_101 u_101 p_101 => ?_)
      obtain ⟨rfl, rfl⟩ := p_101
      dsimp only [rs]
      refine j_iinc dX12_insert_104 rfl ?_
      dsimp only [st1, st2, unL, List.set]
      refine j_goto 85 dX12_insert_107 (by decide) ?_
      refine j_lle (lv' := [some (vr (some (g 0))), some (vi 0), some (vi (nI (a + 1))), some (vi 8), some (vi 41), some (vi (nI ((i + 1) + 1)))]) (by simp [lle, nI_1]) ?_
      exact ih (i + 1) _ (by omega) ⟨by omega, hm, by simp [hI_pI, hI_sI, mNe hm (i := 0) (j := 1) rfl rfl rfl, mNe hm (i := 0) (j := 2) rfl rfl rfl, mNe hm (i := 0) (j := 3) rfl rfl rfl, mNe hm (i := 0) (j := 4) rfl rfl rfl, mNe hm (i := 0) (j := 5) rfl rfl rfl]; exact y0⟩

set_option maxRecDepth 20000 in
theorem e_insert0 {h : Hp} {g : Nat → Nat} (y : Int32) (hf : FM h g) : Con mX12_insert 4 0 0 [vr (some (g 0)), vi 0, vi y] h (an g (if 1 ≤ y ∧ y ≤ 9 then 9 else 0) (if 1 ≤ y ∧ y ≤ 9 then 0 else 2)) := by
  obtain ⟨hm, z0, z1, z2, z3, z4, z5, z9, z10, z11, z64⟩ := id hf
  refine con_of rfl (Nat.le_of_ble_eq_true rfl) (by decide) ?_
  show J mX12_insert 4 0 0 _ 0 [some (vr (some (g 0))), some (vi 0), some (vi y), none, none, none] [] h
  refine j_aload_n dX12_insert_0 rfl ?_
  refine j_iconst (v := 0) dX12_insert_1 (by decide) ?_
  refine j_putI dX12_insert_2 fl_X12_202 rfl rfl rfl hm.1 ?_
  rw [pI_same (fmI z0 0 (v := 0) rfl)]
  refine j_iload_n dX12_insert_5 rfl ?_
  refine j_iconst (v := 0) dX12_insert_6 (by decide) ?_
  refine j_iconst (v := 1) dX12_insert_7 (by decide) ?_
  refine j_callS3 dX12_insert_8 sl_X12_220 (c_in _ _ _) rfl (by decide) (by omega) (by omega) (Nat.le_of_ble_eq_true rfl) (fun v_8 u_8 p_8 => ?_)
  obtain ⟨e_8, rfl⟩ := p_8
  rw [e_8]
  clear e_8
  dsimp only [rs]
  refine j_if_ne 20 dX12_insert_11 (by decide) (fun c_11 => ?_) (fun c_11 => ?_)
  · refine j_aload_n dX12_insert_20 rfl ?_
    refine j_bipush (v := 40) dX12_insert_21 (by decide) ?_
    refine j_iload_n dX12_insert_23 rfl ?_
    refine j_callV2 dX12_insert_24 vl_X12_209 (c_linesOf0 40 (by decide) hm) hm.1 rfl (by decide) (by omega) (by omega) (Nat.le_of_ble_eq_true rfl) (fun v_24 u_24 p_24 => ?_)
    obtain ⟨e_24, rfl⟩ := p_24
    rw [e_24]
    clear e_24
    dsimp only [rs]
    rw [show hI h (g 1) 40 = 8 by rw [z1]; rfl]
    refine j_istore_n dX12_insert_27 (by decide) ?_
    dsimp only [st1, st2, unL, List.set]
    refine j_iload_n dX12_insert_28 rfl ?_
    refine j_iconst (v := 1) dX12_insert_29 (by decide) ?_
    refine j_iload_n dX12_insert_30 rfl ?_
    refine j_iconst (v := 1) dX12_insert_31 (by decide) ?_
    refine j_iadd dX12_insert_32 ?_
    refine j_callS3 dX12_insert_33 sl_X12_220 (c_in _ _ _) rfl (by decide) (by omega) (by omega) (Nat.le_of_ble_eq_true rfl) (fun v_33 u_33 p_33 => ?_)
    obtain ⟨e_33, rfl⟩ := p_33
    rw [e_33]
    clear e_33
    dsimp only [rs]
    refine j_if_ne 45 dX12_insert_36 (by decide) (fun c_36 => ?_) (fun c_36 => ?_)
    · have q : 1 ≤ y ∧ y ≤ 9 := b2_n.mp c_36
      rw [if_pos q, if_pos q]
      obtain ⟨a0, ha0, hy, -⟩ := nI_ex (x := y) (n := 9) (by simp only [le_i, Int32.reduceToInt] at *; omega) (by simp only [le_i, Int32.reduceToInt] at *; omega)
      subst hy
      simp only [le_i, Int32.reduceToInt, nI_toInt (n := a0) (by omega)] at q
      obtain ⟨a, rfl⟩ : ∃ a, a0 = a + 1 := ⟨a0 - 1, by omega⟩
      refine j_iload_n dX12_insert_45 rfl ?_
      refine j_iload_n dX12_insert_46 rfl ?_
      refine j_if_ne 55 dX12_insert_47 (by decide) (fun c_47 => ?_) (fun c_47 => ?_)
      · exact absurd rfl c_47
      · refine j_bipush (v := 32) dX12_insert_50 (by decide) ?_
        refine j_goto 57 dX12_insert_52 (by decide) ?_
        refine j_icmp_ne 66 dX12_insert_57 (by decide) (fun c_57 => ?_) (fun c_57 => ?_)
        · refine j_aload_n dX12_insert_66 rfl ?_
          refine j_callV0 dX12_insert_67 vl_X12_340 (e_step hf) hm.1 rfl (by decide) (by omega) (by omega) (Nat.le_of_ble_eq_true rfl) (fun v_67 u_67 p_67 => ?_)
          obtain ⟨rfl, hm, y0, -⟩ := p_67
          dsimp only [rs]
          refine j_istore dX12_insert_70 (by decide) ?_
          dsimp only [st1, st2, unL, List.set]
          refine j_aload_n dX12_insert_72 rfl ?_
          refine j_bipush (v := 40) dX12_insert_73 (by decide) ?_
          refine j_iload_n dX12_insert_75 rfl ?_
          refine j_iload_n dX12_insert_76 rfl ?_
          refine j_iconst (v := 1) dX12_insert_77 (by decide) ?_
          refine j_iadd dX12_insert_78 ?_
          refine j_callV3 dX12_insert_79 vl_X12_828 (c_setLines0 40 (by decide) _ hm) hm.1 rfl (by decide) (by omega) (by omega) (Nat.le_of_ble_eq_true rfl) (fun v_79 u_79 p_79 => ?_)
          obtain ⟨rfl, rfl⟩ := p_79
          dsimp only [rs]
          refine j_iload_n dX12_insert_82 rfl ?_
          refine j_istore dX12_insert_83 (by decide) ?_
          dsimp only [st1, st2, unL, List.set]
          refine l_ins0 (a := a) (by omega) 10 a _ (by omega) ⟨by omega, hm, ?_⟩
          simp [hI_pI, mNe hm (i := 0) (j := 1) rfl rfl rfl, mNe hm (i := 0) (j := 2) rfl rfl rfl, mNe hm (i := 0) (j := 3) rfl rfl rfl, mNe hm (i := 0) (j := 4) rfl rfl rfl, mNe hm (i := 0) (j := 5) rfl rfl rfl]
          exact y0
        · exact absurd (by decide) c_57
    · refine j_aload_n dX12_insert_39 rfl ?_
      refine j_iconst (v := 2) dX12_insert_40 (by decide) ?_
      refine j_callV1 dX12_insert_41 vl_X12_237 (c_throwing 2 hm) hm.1 rfl (by decide) (by omega) (by omega) (Nat.le_of_ble_eq_true rfl) (fun v_41 u_41 p_41 => ?_)
      obtain ⟨e_, rfl⟩ := p_41
      rw [e_]
      clear e_
      dsimp only [rs]
      exact j_ireturn dX12_insert_44 rfl rfl ⟨by rw [if_neg (show ¬ (1 ≤ y ∧ y ≤ 9) from b2_0.mp (Classical.not_not.mp c_36))], hm, by rw [hI_pI, if_pos ⟨rfl, rfl⟩]; exact (if_neg (b2_0.mp (Classical.not_not.mp c_36))).symm⟩
  · exact absurd (by decide) c_11

set_option maxRecDepth 20000 in
theorem l_goLine0 {g : Nat → Nat} {a s m : Nat} (ha : a ≤ m) (hmw : m < 32) (hs : s < 122) (hs4 : s ≠ 40) : ∀ (n : Nat) (i : Nat) (u : Hp), m - i < n → i ≤ m ∧ KM g u → J mX12_goLine 3 0 0 (nx (fun v u => v = none ∧ KM g u)) 12 [some (vr (some (g 0))), some (vi 0), some (vi (nI (a + 1))), some (vi (nI s)), some (vi (nI (m + 1))), some (vi (nI (i + 1)))] [] u := by
  intro n
  induction n with
  | zero => intro i u hlt; omega
  | succ n ih =>
    intro i u hlt hinv
    obtain ⟨hi, hm, y0⟩ := hinv
    refine j_iload dX12_goLine_12 rfl ?_
    refine j_iload dX12_goLine_14 rfl ?_
    refine j_icmp_ge 37 dX12_goLine_16 (by decide) (fun c_16 => ?_) (fun c_16 => ?_)
    · refine j_aload_n dX12_goLine_37 rfl ?_
      refine j_iload_n dX12_goLine_38 rfl ?_
      refine j_iload dX12_goLine_39 rfl ?_
      refine j_iconst (v := 1) dX12_goLine_41 (by decide) ?_
      refine j_isub dX12_goLine_42 ?_
      rw [nI_pred]
      refine j_callV2 dX12_goLine_43 vl_X12_834 (c_emptyLine0 (b := m) hm (by omega)) hm.1 rfl (by decide) (by omega) (by omega) (Nat.le_of_ble_eq_true rfl) (fun v_43 u_43 p_43 => ?_)
      obtain ⟨rfl, rfl⟩ := p_43
      dsimp only [rs]
      refine j_aload_n dX12_goLine_46 rfl ?_
      refine j_bipush (v := 40) dX12_goLine_47 (by decide) ?_
      refine j_iload_n dX12_goLine_49 rfl ?_
      refine j_iload dX12_goLine_50 rfl ?_
      refine j_iconst (v := 1) dX12_goLine_52 (by decide) ?_
      refine j_isub dX12_goLine_53 ?_
      refine j_callV3 dX12_goLine_54 vl_X12_828 (c_setLines0 40 (by decide) _ hm) hm.1 rfl (by decide) (by omega) (by omega) (Nat.le_of_ble_eq_true rfl) (fun v_54 u_54 p_54 => ?_)
      obtain ⟨rfl, rfl⟩ := p_54
      dsimp only [rs]
      exact j_return dX12_goLine_57 rfl (⟨rfl, hm, by simp [hI_pI, hI_sI, mNe hm (i := 0) (j := 1) rfl rfl rfl, mNe hm (i := 0) (j := 2) rfl rfl rfl, mNe hm (i := 0) (j := 3) rfl rfl rfl, mNe hm (i := 0) (j := 4) rfl rfl rfl, mNe hm (i := 0) (j := 5) rfl rfl rfl]; exact y0⟩)
    · have hlt2 : i < m := by rw [nI_leI (by omega) (by omega)] at c_16; omega
      refine j_aload_n dX12_goLine_19 rfl ?_
      refine j_iload_n dX12_goLine_20 rfl ?_
      refine j_iload dX12_goLine_21 rfl ?_
      refine j_iload_n dX12_goLine_23 rfl ?_
      refine j_iload dX12_goLine_24 rfl ?_
      refine j_iconst (v := 1) dX12_goLine_26 (by decide) ?_
      refine j_isub dX12_goLine_27 ?_
      rw [nI_pred]
      refine j_callV4 dX12_goLine_28 vl_X12_831 (c_comeLine0 (s := s) (a := i + 1) (b := i) hm hs hs4 (by omega) (by omega)) hm.1 rfl (by decide) (by omega) (by omega) (Nat.le_of_ble_eq_true rfl) (fun v_28 u_28 p_28 => ?_)
      obtain ⟨rfl, rfl⟩ := p_28
      dsimp only [rs]
      refine j_iinc dX12_goLine_31 rfl ?_
      dsimp only [st1, st2, unL, List.set]
      refine j_goto 12 dX12_goLine_34 (by decide) ?_
      refine j_lle (lv' := [some (vr (some (g 0))), some (vi 0), some (vi (nI (a + 1))), some (vi (nI s)), some (vi (nI (m + 1))), some (vi (nI ((i + 1) + 1)))]) (by simp [lle, nI_1]) ?_
      exact ih (i + 1) _ (by omega) ⟨by omega, hm, by simp [hI_pI, hI_sI, mNe hm (i := 0) (j := 1) rfl rfl rfl, mNe hm (i := 0) (j := 2) rfl rfl rfl, mNe hm (i := 0) (j := 3) rfl rfl rfl, mNe hm (i := 0) (j := 4) rfl rfl rfl, mNe hm (i := 0) (j := 5) rfl rfl rfl]; exact y0⟩

set_option maxRecDepth 20000 in
theorem e_goLine0 {h : Hp} {g : Nat → Nat} {a s m : Nat} (hk : KM g h) (hn : hI h (g 1) 40 = nI (m + 1)) (ha : a ≤ m) (hmw : m < 32) (hs : s < 122) (hs4 : s ≠ 40) : Con mX12_goLine 3 0 0 [vr (some (g 0)), vi 0, vi (nI (a + 1)), vi (nI s)] h (fun v u => v = none ∧ KM g u) := by
  obtain ⟨hm, y0⟩ := id hk
  refine con_of rfl (Nat.le_of_ble_eq_true rfl) (by decide) ?_
  show J mX12_goLine 3 0 0 _ 0 [some (vr (some (g 0))), some (vi 0), some (vi (nI (a + 1))), some (vi (nI s)), none, none] [] h
  refine j_aload_n dX12_goLine_0 rfl ?_
  refine j_bipush (v := 40) dX12_goLine_1 (by decide) ?_
  refine j_iload_n dX12_goLine_3 rfl ?_
  refine j_callV2 dX12_goLine_4 vl_X12_209 (c_linesOf0 40 (by decide) hm) hm.1 rfl (by decide) (by omega) (by omega) (Nat.le_of_ble_eq_true rfl) (fun v_4 u_4 p_4 => ?_)
  obtain ⟨e_4, rfl⟩ := p_4
  rw [e_4]
  clear e_4
  dsimp only [rs]
  rw [hn]
  refine j_istore dX12_goLine_7 (by decide) ?_
  dsimp only [st1, st2, unL, List.set]
  refine j_iload_n dX12_goLine_9 rfl ?_
  refine j_istore dX12_goLine_10 (by decide) ?_
  dsimp only [st1, st2, unL, List.set]
  exact l_goLine0 ha hmw hs hs4 (m + 1) a _ (by omega) ⟨ha, hk⟩

set_option maxRecDepth 20000 in
theorem e_remove0 {h : Hp} {g : Nat → Nat} (y : Int32) (hf : FM h g) : Con mX12_remove 4 0 0 [vr (some (g 0)), vi 0, vi y] h (an g (if 1 ≤ y ∧ y ≤ 8 then 7 else 0) (if 1 ≤ y ∧ y ≤ 8 then 0 else 2)) := by
  obtain ⟨hm, z0, z1, z2, z3, z4, z5, z9, z10, z11, z64⟩ := id hf
  refine con_of rfl (Nat.le_of_ble_eq_true rfl) (by decide) ?_
  show J mX12_remove 4 0 0 _ 0 [some (vr (some (g 0))), some (vi 0), some (vi y), none, none] [] h
  refine j_aload_n dX12_remove_0 rfl ?_
  refine j_iconst (v := 0) dX12_remove_1 (by decide) ?_
  refine j_putI dX12_remove_2 fl_X12_202 rfl rfl rfl hm.1 ?_
  rw [pI_same (fmI z0 0 (v := 0) rfl)]
  refine j_iload_n dX12_remove_5 rfl ?_
  refine j_iconst (v := 0) dX12_remove_6 (by decide) ?_
  refine j_iconst (v := 1) dX12_remove_7 (by decide) ?_
  refine j_callS3 dX12_remove_8 sl_X12_220 (c_in _ _ _) rfl (by decide) (by omega) (by omega) (Nat.le_of_ble_eq_true rfl) (fun v_8 u_8 p_8 => ?_)
  obtain ⟨e_8, rfl⟩ := p_8
  rw [e_8]
  clear e_8
  dsimp only [rs]
  refine j_if_ne 20 dX12_remove_11 (by decide) (fun c_11 => ?_) (fun c_11 => ?_)
  · refine j_aload_n dX12_remove_20 rfl ?_
    refine j_bipush (v := 40) dX12_remove_21 (by decide) ?_
    refine j_iload_n dX12_remove_23 rfl ?_
    refine j_callV2 dX12_remove_24 vl_X12_209 (c_linesOf0 40 (by decide) hm) hm.1 rfl (by decide) (by omega) (by omega) (Nat.le_of_ble_eq_true rfl) (fun v_24 u_24 p_24 => ?_)
    obtain ⟨e_24, rfl⟩ := p_24
    rw [e_24]
    clear e_24
    dsimp only [rs]
    rw [show hI h (g 1) 40 = 8 by rw [z1]; rfl]
    refine j_istore_n dX12_remove_27 (by decide) ?_
    dsimp only [st1, st2, unL, List.set]
    refine j_iload_n dX12_remove_28 rfl ?_
    refine j_iconst (v := 1) dX12_remove_29 (by decide) ?_
    refine j_iload_n dX12_remove_30 rfl ?_
    refine j_callS3 dX12_remove_31 sl_X12_220 (c_in _ _ _) rfl (by decide) (by omega) (by omega) (Nat.le_of_ble_eq_true rfl) (fun v_31 u_31 p_31 => ?_)
    obtain ⟨e_31, rfl⟩ := p_31
    rw [e_31]
    clear e_31
    dsimp only [rs]
    refine j_if_ne 43 dX12_remove_34 (by decide) (fun c_34 => ?_) (fun c_34 => ?_)
    · have q : 1 ≤ y ∧ y ≤ 8 := b2_n.mp c_34
      rw [if_pos q, if_pos q]
      obtain ⟨a0, ha0, hy, -⟩ := nI_ex (x := y) (n := 8) (by simp only [le_i, Int32.reduceToInt] at *; omega) (by simp only [le_i, Int32.reduceToInt] at *; omega)
      subst hy
      simp only [le_i, Int32.reduceToInt, nI_toInt (n := a0) (by omega)] at q
      obtain ⟨a, rfl⟩ : ∃ a, a0 = a + 1 := ⟨a0 - 1, by omega⟩
      refine j_iload_n dX12_remove_43 rfl ?_
      refine j_iconst (v := 1) dX12_remove_44 (by decide) ?_
      refine j_icmp_ne 54 dX12_remove_45 (by decide) (fun c_45 => ?_) (fun c_45 => ?_)
      · refine j_aload_n dX12_remove_54 rfl ?_
        refine j_callV0 dX12_remove_55 vl_X12_340 (e_step hf) hm.1 rfl (by decide) (by omega) (by omega) (Nat.le_of_ble_eq_true rfl) (fun v_55 u_55 p_55 => ?_)
        obtain ⟨rfl, hm, y0, y1, y2, -⟩ := p_55
        dsimp only [rs]
        refine j_istore dX12_remove_58 (by decide) ?_
        dsimp only [st1, st2, unL, List.set]
        refine j_aload_n dX12_remove_60 rfl ?_
        refine j_iload_n dX12_remove_61 rfl ?_
        refine j_iload_n dX12_remove_62 rfl ?_
        refine j_iload dX12_remove_63 rfl ?_
        refine j_callV3 dX12_remove_65 vl_X12_837 (e_goLine0 (a := a) (s := 41) (m := 7) ⟨hm, y0⟩ (by rw [y1]; rfl) (by omega) (by decide) (by decide) (by decide)) hm.1 rfl (by decide) (by omega) (by omega) (Nat.le_of_ble_eq_true rfl) (fun v_65 u_65 p_65 => ?_)
        obtain ⟨rfl, hm2, y0⟩ := p_65
        dsimp only [rs]
        refine j_iload_n dX12_remove_68 rfl ?_
        refine j_iconst (v := 1) dX12_remove_69 (by decide) ?_
        refine j_isub dX12_remove_70 ?_
        exact j_ireturn dX12_remove_71 rfl rfl (⟨rfl, hm2, y0⟩)
      · exact absurd (by decide) c_45
    · refine j_aload_n dX12_remove_37 rfl ?_
      refine j_iconst (v := 2) dX12_remove_38 (by decide) ?_
      refine j_callV1 dX12_remove_39 vl_X12_237 (c_throwing 2 hm) hm.1 rfl (by decide) (by omega) (by omega) (Nat.le_of_ble_eq_true rfl) (fun v_39 u_39 p_39 => ?_)
      obtain ⟨e_, rfl⟩ := p_39
      rw [e_]
      clear e_
      dsimp only [rs]
      exact j_ireturn dX12_remove_42 rfl rfl ⟨by rw [if_neg (b2_0.mp (Classical.not_not.mp c_34))], hm, by rw [hI_pI, if_pos ⟨rfl, rfl⟩]; exact (if_neg (b2_0.mp (Classical.not_not.mp c_34))).symm⟩
  · exact absurd (by decide) c_11

set_option maxRecDepth 20000 in
theorem l_move0up {g : Nat → Nat} {a b : Nat} (ha : a < 8) (hb : b < 8) : ∀ (n : Nat) (i : Nat) (u : Hp), b - i < n → a ≤ i ∧ i ≤ b ∧ KM g u → J mX12_move 4 0 0 (nx (an g (if nI (a + 1) = nI (b + 1) then 0 else (nI (b + 1) - nI (a + 1)) * 1 + 1) 0)) 76 [some (vr (some (g 0))), some (vi 0), some (vi (nI (a + 1))), some (vi (nI (b + 1))), some (vi 8), some (vi 41), some (vi 1), some (vi (nI (i + 1)))] [] u := by
  intro n
  induction n with
  | zero => intro i u hlt; omega
  | succ n ih =>
    intro i u hlt hinv
    obtain ⟨hi1, hi2, hm, y0⟩ := hinv
    refine j_iload dX12_move_76 rfl ?_
    refine j_iload_n dX12_move_78 rfl ?_
    refine j_icmp_eq 110 dX12_move_79 (by decide) (fun c_79 => ?_) (fun c_79 => ?_)
    · refine j_aload_n dX12_move_110 rfl ?_
      refine j_iload_n dX12_move_111 rfl ?_
      refine j_iload_n dX12_move_112 rfl ?_
      refine j_iconst (v := 1) dX12_move_113 (by decide) ?_
      refine j_isub dX12_move_114 ?_
      rw [nI_pred]
      refine j_iload dX12_move_115 rfl ?_
      refine j_iload_n dX12_move_117 rfl ?_
      refine j_iconst (v := 1) dX12_move_118 (by decide) ?_
      refine j_isub dX12_move_119 ?_
      rw [nI_pred]
      refine j_callV4 dX12_move_120 vl_X12_831 (c_comeLine0 (s := 41) (a := a) (b := b) hm (by decide) (by decide) (by omega) (by omega)) hm.1 rfl (by decide) (by omega) (by omega) (Nat.le_of_ble_eq_true rfl) (fun v_120 u_120 p_120 => ?_)
      obtain ⟨rfl, rfl⟩ := p_120
      dsimp only [rs]
      refine j_iload_n dX12_move_123 rfl ?_
      refine j_iload_n dX12_move_124 rfl ?_
      refine j_icmp_ne 132 dX12_move_125 (by decide) (fun c_125 => ?_) (fun c_125 => ?_)
      · refine j_iload_n dX12_move_132 rfl ?_
        refine j_iload_n dX12_move_133 rfl ?_
        refine j_isub dX12_move_134 ?_
        refine j_iload dX12_move_135 rfl ?_
        refine j_imul dX12_move_137 ?_
        refine j_iconst (v := 1) dX12_move_138 (by decide) ?_
        refine j_iadd dX12_move_139 ?_
        exact j_ireturn dX12_move_140 rfl rfl (⟨by first | (rw [if_pos (Classical.not_not.mp c_125)]; done) | rw [if_neg c_125], hm, by simp [hI_pI, hI_sI, mNe hm (i := 0) (j := 1) rfl rfl rfl, mNe hm (i := 0) (j := 2) rfl rfl rfl, mNe hm (i := 0) (j := 3) rfl rfl rfl, mNe hm (i := 0) (j := 4) rfl rfl rfl, mNe hm (i := 0) (j := 5) rfl rfl rfl]; exact y0⟩)
      · refine j_iconst (v := 0) dX12_move_128 (by decide) ?_
        refine j_goto 140 dX12_move_129 (by decide) ?_
        exact j_ireturn dX12_move_140 rfl rfl (⟨by first | (rw [if_pos (Classical.not_not.mp c_125)]; done) | rw [if_neg c_125], hm, by simp [hI_pI, hI_sI, mNe hm (i := 0) (j := 1) rfl rfl rfl, mNe hm (i := 0) (j := 2) rfl rfl rfl, mNe hm (i := 0) (j := 3) rfl rfl rfl, mNe hm (i := 0) (j := 4) rfl rfl rfl, mNe hm (i := 0) (j := 5) rfl rfl rfl]; exact y0⟩)
    · have hne : i ≠ b := fun e => c_79 (by rw [e])
      refine j_aload_n dX12_move_82 rfl ?_
      refine j_iload_n dX12_move_83 rfl ?_
      refine j_iload dX12_move_84 rfl ?_
      refine j_iload dX12_move_86 rfl ?_
      refine j_iadd dX12_move_88 ?_
      refine j_iconst (v := 1) dX12_move_89 (by decide) ?_
      refine j_isub dX12_move_90 ?_
      rw [nI_1, nI_pred]
      refine j_iload dX12_move_91 rfl ?_
      refine j_iload dX12_move_93 rfl ?_
      refine j_iconst (v := 1) dX12_move_95 (by decide) ?_
      refine j_isub dX12_move_96 ?_
      rw [nI_pred]
      refine j_callV4 dX12_move_97 vl_X12_831 (c_comeLine0 (s := 41) (a := i + 1) (b := i) hm (by decide) (by decide) (by omega) (by omega)) hm.1 rfl (by decide) (by omega) (by omega) (Nat.le_of_ble_eq_true rfl) (fun v_97 u_97 p_97 => ?_)
      obtain ⟨rfl, rfl⟩ := p_97
      dsimp only [rs]
      refine j_iload dX12_move_100 rfl ?_
      refine j_iload dX12_move_102 rfl ?_
      refine j_iadd dX12_move_104 ?_
      refine j_istore dX12_move_105 (by decide) ?_
      dsimp only [st1, st2, unL, List.set]
      refine j_goto 76 dX12_move_107 (by decide) ?_
      refine j_lle (lv' := [some (vr (some (g 0))), some (vi 0), some (vi (nI (a + 1))), some (vi (nI (b + 1))), some (vi 8), some (vi 41), some (vi 1), some (vi (nI ((i + 1) + 1)))]) (by simp [lle, nI_1, pk_m1]) ?_
      exact ih (i + 1) _ (by omega) ⟨by omega, by omega, hm, by simp [hI_pI, hI_sI, mNe hm (i := 0) (j := 1) rfl rfl rfl, mNe hm (i := 0) (j := 2) rfl rfl rfl, mNe hm (i := 0) (j := 3) rfl rfl rfl, mNe hm (i := 0) (j := 4) rfl rfl rfl, mNe hm (i := 0) (j := 5) rfl rfl rfl]; exact y0⟩

set_option maxRecDepth 20000 in
theorem l_move0dn {g : Nat → Nat} {a b : Nat} (ha : a < 8) (hb : b < 8) : ∀ (n : Nat) (i : Nat) (u : Hp), i - b < n → b ≤ i ∧ i ≤ a ∧ KM g u → J mX12_move 4 0 0 (nx (an g (if nI (a + 1) = nI (b + 1) then 0 else (nI (b + 1) - nI (a + 1)) * (-1) + 1) 0)) 76 [some (vr (some (g 0))), some (vi 0), some (vi (nI (a + 1))), some (vi (nI (b + 1))), some (vi 8), some (vi 41), some (vi (-1)), some (vi (nI (i + 1)))] [] u := by
  intro n
  induction n with
  | zero => intro i u hlt; omega
  | succ n ih =>
    intro i u hlt hinv
    obtain ⟨hi1, hi2, hm, y0⟩ := hinv
    refine j_iload dX12_move_76 rfl ?_
    refine j_iload_n dX12_move_78 rfl ?_
    refine j_icmp_eq 110 dX12_move_79 (by decide) (fun c_79 => ?_) (fun c_79 => ?_)
    · refine j_aload_n dX12_move_110 rfl ?_
      refine j_iload_n dX12_move_111 rfl ?_
      refine j_iload_n dX12_move_112 rfl ?_
      refine j_iconst (v := 1) dX12_move_113 (by decide) ?_
      refine j_isub dX12_move_114 ?_
      rw [nI_pred]
      refine j_iload dX12_move_115 rfl ?_
      refine j_iload_n dX12_move_117 rfl ?_
      refine j_iconst (v := 1) dX12_move_118 (by decide) ?_
      refine j_isub dX12_move_119 ?_
      rw [nI_pred]
      refine j_callV4 dX12_move_120 vl_X12_831 (c_comeLine0 (s := 41) (a := a) (b := b) hm (by decide) (by decide) (by omega) (by omega)) hm.1 rfl (by decide) (by omega) (by omega) (Nat.le_of_ble_eq_true rfl) (fun v_120 u_120 p_120 => ?_)
      obtain ⟨rfl, rfl⟩ := p_120
      dsimp only [rs]
      refine j_iload_n dX12_move_123 rfl ?_
      refine j_iload_n dX12_move_124 rfl ?_
      refine j_icmp_ne 132 dX12_move_125 (by decide) (fun c_125 => ?_) (fun c_125 => ?_)
      · refine j_iload_n dX12_move_132 rfl ?_
        refine j_iload_n dX12_move_133 rfl ?_
        refine j_isub dX12_move_134 ?_
        refine j_iload dX12_move_135 rfl ?_
        refine j_imul dX12_move_137 ?_
        refine j_iconst (v := 1) dX12_move_138 (by decide) ?_
        refine j_iadd dX12_move_139 ?_
        exact j_ireturn dX12_move_140 rfl rfl (⟨by first | (rw [if_pos (Classical.not_not.mp c_125)]; done) | rw [if_neg c_125], hm, by simp [hI_pI, hI_sI, mNe hm (i := 0) (j := 1) rfl rfl rfl, mNe hm (i := 0) (j := 2) rfl rfl rfl, mNe hm (i := 0) (j := 3) rfl rfl rfl, mNe hm (i := 0) (j := 4) rfl rfl rfl, mNe hm (i := 0) (j := 5) rfl rfl rfl]; exact y0⟩)
      · refine j_iconst (v := 0) dX12_move_128 (by decide) ?_
        refine j_goto 140 dX12_move_129 (by decide) ?_
        exact j_ireturn dX12_move_140 rfl rfl (⟨by first | (rw [if_pos (Classical.not_not.mp c_125)]; done) | rw [if_neg c_125], hm, by simp [hI_pI, hI_sI, mNe hm (i := 0) (j := 1) rfl rfl rfl, mNe hm (i := 0) (j := 2) rfl rfl rfl, mNe hm (i := 0) (j := 3) rfl rfl rfl, mNe hm (i := 0) (j := 4) rfl rfl rfl, mNe hm (i := 0) (j := 5) rfl rfl rfl]; exact y0⟩)
    · have hne : i ≠ b := fun e => c_79 (by rw [e])
      obtain ⟨j, rfl⟩ : ∃ j, i = j + 1 := ⟨i - 1, by omega⟩
      refine j_aload_n dX12_move_82 rfl ?_
      refine j_iload_n dX12_move_83 rfl ?_
      refine j_iload dX12_move_84 rfl ?_
      refine j_iload dX12_move_86 rfl ?_
      refine j_iadd dX12_move_88 ?_
      refine j_iconst (v := 1) dX12_move_89 (by decide) ?_
      refine j_isub dX12_move_90 ?_
      rw [pk_m1, nI_pred]
      refine j_iload dX12_move_91 rfl ?_
      refine j_iload dX12_move_93 rfl ?_
      refine j_iconst (v := 1) dX12_move_95 (by decide) ?_
      refine j_isub dX12_move_96 ?_
      rw [nI_pred]
      refine j_callV4 dX12_move_97 vl_X12_831 (c_comeLine0 (s := 41) (a := j) (b := j + 1) hm (by decide) (by decide) (by omega) (by omega)) hm.1 rfl (by decide) (by omega) (by omega) (Nat.le_of_ble_eq_true rfl) (fun v_97 u_97 p_97 => ?_)
      obtain ⟨rfl, rfl⟩ := p_97
      dsimp only [rs]
      refine j_iload dX12_move_100 rfl ?_
      refine j_iload dX12_move_102 rfl ?_
      refine j_iadd dX12_move_104 ?_
      refine j_istore dX12_move_105 (by decide) ?_
      dsimp only [st1, st2, unL, List.set]
      refine j_goto 76 dX12_move_107 (by decide) ?_
      refine j_lle (lv' := [some (vr (some (g 0))), some (vi 0), some (vi (nI (a + 1))), some (vi (nI (b + 1))), some (vi 8), some (vi 41), some (vi (-1)), some (vi (nI (j + 1)))]) (by simp [lle, nI_1, pk_m1]) ?_
      exact ih j _ (by omega) ⟨by omega, by omega, hm, by simp [hI_pI, hI_sI, mNe hm (i := 0) (j := 1) rfl rfl rfl, mNe hm (i := 0) (j := 2) rfl rfl rfl, mNe hm (i := 0) (j := 3) rfl rfl rfl, mNe hm (i := 0) (j := 4) rfl rfl rfl, mNe hm (i := 0) (j := 5) rfl rfl rfl]; exact y0⟩

def mvR (n y z : Int32) : Int32 := if 1 ≤ y ∧ y ≤ n ∧ 1 ≤ z ∧ z ≤ n then (if y = z then 0 else if y < z then z - y + 1 else y - z + 1) else 0
set_option maxRecDepth 20000 in
theorem e_move0 {h : Hp} {g : Nat → Nat} (y z : Int32) (hf : FM h g) : Con mX12_move 4 0 0 [vr (some (g 0)), vi 0, vi y, vi z] h (an g (mvR 8 y z) (if (1 ≤ y ∧ y ≤ 8 ∧ 1 ≤ z ∧ z ≤ 8) then 0 else 2)) := by
  obtain ⟨hm, z0, z1, z2, z3, z4, z5, z9, z10, z11, z64⟩ := id hf
  refine con_of rfl (Nat.le_of_ble_eq_true rfl) (by decide) ?_
  show J mX12_move 4 0 0 _ 0 [some (vr (some (g 0))), some (vi 0), some (vi y), some (vi z), none, none, none, none] [] h
  refine j_aload_n dX12_move_0 rfl ?_
  refine j_iconst (v := 0) dX12_move_1 (by decide) ?_
  refine j_putI dX12_move_2 fl_X12_202 rfl rfl rfl hm.1 ?_
  rw [pI_same (fmI z0 0 (v := 0) rfl)]
  refine j_iload_n dX12_move_5 rfl ?_
  refine j_iconst (v := 0) dX12_move_6 (by decide) ?_
  refine j_iconst (v := 1) dX12_move_7 (by decide) ?_
  refine j_callS3 dX12_move_8 sl_X12_220 (c_in _ _ _) rfl (by decide) (by omega) (by omega) (Nat.le_of_ble_eq_true rfl) (fun v_8 u_8 p_8 => ?_)
  obtain ⟨e_8, rfl⟩ := p_8
  rw [e_8]
  clear e_8
  dsimp only [rs]
  refine j_if_ne 20 dX12_move_11 (by decide) (fun c_11 => ?_) (fun c_11 => ?_)
  · refine j_aload_n dX12_move_20 rfl ?_
    refine j_bipush (v := 40) dX12_move_21 (by decide) ?_
    refine j_iload_n dX12_move_23 rfl ?_
    refine j_callV2 dX12_move_24 vl_X12_209 (c_linesOf0 40 (by decide) hm) hm.1 rfl (by decide) (by omega) (by omega) (Nat.le_of_ble_eq_true rfl) (fun v_24 u_24 p_24 => ?_)
    obtain ⟨e_24, rfl⟩ := p_24
    rw [e_24]
    clear e_24
    dsimp only [rs]
    rw [show hI h (g 1) 40 = 8 by rw [z1]; rfl]
    refine j_istore dX12_move_27 (by decide) ?_
    dsimp only [st1, st2, unL, List.set]
    refine j_iload_n dX12_move_29 rfl ?_
    refine j_iconst (v := 1) dX12_move_30 (by decide) ?_
    refine j_iload dX12_move_31 rfl ?_
    refine j_callS3 dX12_move_33 sl_X12_220 (c_in _ _ _) rfl (by decide) (by omega) (by omega) (Nat.le_of_ble_eq_true rfl) (fun v_33 u_33 p_33 => ?_)
    obtain ⟨e_33, rfl⟩ := p_33
    rw [e_33]
    clear e_33
    dsimp only [rs]
    refine j_if_eq 49 dX12_move_36 (by decide) (fun c_36 => ?_) (fun c_36 => ?_)
    · refine j_aload_n dX12_move_49 rfl ?_
      refine j_iconst (v := 2) dX12_move_50 (by decide) ?_
      refine j_callV1 dX12_move_51 vl_X12_237 (c_throwing 2 hm) hm.1 rfl (by decide) (by omega) (by omega) (Nat.le_of_ble_eq_true rfl) (fun v_51 u_51 p_51 => ?_)
      obtain ⟨e_, rfl⟩ := p_51
      rw [e_]
      clear e_
      dsimp only [rs]
      have q : ¬ (1 ≤ y ∧ y ≤ 8 ∧ 1 ≤ z ∧ z ≤ 8) := fun w => by first | exact b2_0.mp (Classical.not_not.mp c_46) ⟨w.2.2.1, w.2.2.2⟩ | exact b2_0.mp c_36 ⟨w.1, w.2.1⟩
      exact j_ireturn dX12_move_54 rfl rfl ⟨by rw [mvR, if_neg q], hm, by rw [hI_pI, if_pos ⟨rfl, rfl⟩, if_neg q]⟩
    · refine j_iload_n dX12_move_39 rfl ?_
      refine j_iconst (v := 1) dX12_move_40 (by decide) ?_
      refine j_iload dX12_move_41 rfl ?_
      refine j_callS3 dX12_move_43 sl_X12_220 (c_in _ _ _) rfl (by decide) (by omega) (by omega) (Nat.le_of_ble_eq_true rfl) (fun v_43 u_43 p_43 => ?_)
      obtain ⟨e_43, rfl⟩ := p_43
      rw [e_43]
      clear e_43
      dsimp only [rs]
      refine j_if_ne 55 dX12_move_46 (by decide) (fun c_46 => ?_) (fun c_46 => ?_)
      · have q1 := b2_nn.mp c_36
        have q2 := b2_n.mp c_46
        have qq : (1 ≤ y ∧ y ≤ 8 ∧ 1 ≤ z ∧ z ≤ 8) := ⟨q1.1, q1.2, q2.1, q2.2⟩
        rw [mvR, if_pos qq, if_pos qq]
        obtain ⟨a0, ha0, hy, -⟩ := nI_ex (x := y) (n := 8) (by simp only [le_i, Int32.reduceToInt] at *; omega) (by simp only [le_i, Int32.reduceToInt] at *; omega)
        subst hy
        obtain ⟨b0, hb0, hy, -⟩ := nI_ex (x := z) (n := 8) (by simp only [le_i, Int32.reduceToInt] at *; omega) (by simp only [le_i, Int32.reduceToInt] at *; omega)
        subst hy
        simp only [le_i, Int32.reduceToInt, nI_toInt (n := a0) (by omega), nI_toInt (n := b0) (by omega)] at q1 q2
        obtain ⟨a, rfl⟩ : ∃ a, a0 = a + 1 := ⟨a0 - 1, by omega⟩
        obtain ⟨b, rfl⟩ : ∃ b, b0 = b + 1 := ⟨b0 - 1, by omega⟩
        refine j_aload_n dX12_move_55 rfl ?_
        refine j_callV0 dX12_move_56 vl_X12_340 (e_step hf) hm.1 rfl (by decide) (by omega) (by omega) (Nat.le_of_ble_eq_true rfl) (fun v_56 u_56 p_56 => ?_)
        obtain ⟨rfl, hm1, y0, -⟩ := p_56
        dsimp only [rs]
        refine j_istore dX12_move_59 (by decide) ?_
        dsimp only [st1, st2, unL, List.set]
        refine j_iload_n dX12_move_61 rfl ?_
        refine j_iload_n dX12_move_62 rfl ?_
        refine j_icmp_le 70 dX12_move_63 (by decide) (fun c_63 => ?_) (fun c_63 => ?_)
        · have hab : b ≤ a := by rw [nI_leI (by omega) (by omega)] at c_63; omega
          rw [if_neg (show ¬ nI (a + 1) < nI (b + 1) by rw [nI_ltI (by omega) (by omega)]; omega), show (nI (a + 1) - nI (b + 1)) + 1 = (nI (b + 1) - nI (a + 1)) * (-1) + 1 by rw [Int32.mul_neg, Int32.mul_one, Int32.neg_sub]]
          refine j_iconst (v := -1) dX12_move_70 (by decide) ?_
          refine j_istore dX12_move_71 (by decide) ?_
          dsimp only [st1, st2, unL, List.set]
          refine j_iload_n dX12_move_73 rfl ?_
          refine j_istore dX12_move_74 (by decide) ?_
          dsimp only [st1, st2, unL, List.set]
          first | exact l_move0up (a := a) (b := b) (by omega) (by omega) 9 a _ (by omega) ⟨by omega, by omega, hm1, y0⟩ | exact l_move0dn (a := a) (b := b) (by omega) (by omega) 9 a _ (by omega) ⟨by omega, by omega, hm1, y0⟩
        · have hab : a < b := by rw [nI_leI (by omega) (by omega)] at c_63; omega
          rw [if_pos (show nI (a + 1) < nI (b + 1) by rw [nI_ltI (by omega) (by omega)]; omega), show (nI (b + 1) - nI (a + 1)) + 1 = (nI (b + 1) - nI (a + 1)) * 1 + 1 by rw [Int32.mul_one]]
          refine j_iconst (v := 1) dX12_move_66 (by decide) ?_
          refine j_goto 71 dX12_move_67 (by decide) ?_
          refine j_istore dX12_move_71 (by decide) ?_
          dsimp only [st1, st2, unL, List.set]
          refine j_iload_n dX12_move_73 rfl ?_
          refine j_istore dX12_move_74 (by decide) ?_
          dsimp only [st1, st2, unL, List.set]
          first | exact l_move0up (a := a) (b := b) (by omega) (by omega) 9 a _ (by omega) ⟨by omega, by omega, hm1, y0⟩ | exact l_move0dn (a := a) (b := b) (by omega) (by omega) 9 a _ (by omega) ⟨by omega, by omega, hm1, y0⟩
      · refine j_aload_n dX12_move_49 rfl ?_
        refine j_iconst (v := 2) dX12_move_50 (by decide) ?_
        refine j_callV1 dX12_move_51 vl_X12_237 (c_throwing 2 hm) hm.1 rfl (by decide) (by omega) (by omega) (Nat.le_of_ble_eq_true rfl) (fun v_51 u_51 p_51 => ?_)
        obtain ⟨e_, rfl⟩ := p_51
        rw [e_]
        clear e_
        dsimp only [rs]
        have q : ¬ (1 ≤ y ∧ y ≤ 8 ∧ 1 ≤ z ∧ z ≤ 8) := fun w => by first | exact b2_0.mp (Classical.not_not.mp c_46) ⟨w.2.2.1, w.2.2.2⟩ | exact b2_0.mp c_36 ⟨w.1, w.2.1⟩
        exact j_ireturn dX12_move_54 rfl rfl ⟨by rw [mvR, if_neg q], hm, by rw [hI_pI, if_pos ⟨rfl, rfl⟩, if_neg q]⟩
  · exact absurd (by decide) c_11

set_option maxRecDepth 20000 in
theorem l_ins1 {g : Nat → Nat} {a : Nat} (ha : a < 7) : ∀ (n : Nat) (i : Nat) (u : Hp), 7 - i < n → i ≤ 6 ∧ KM g u → J mX12_insert 4 0 0 (nx (an g 7 0)) 85 [some (vr (some (g 0))), some (vi 1), some (vi (nI (a + 1))), some (vi 6), some (vi 41), some (vi (nI (i + 1)))] [] u := by
  intro n
  induction n with
  | zero => intro i u hlt; omega
  | succ n ih =>
    intro i u hlt hinv
    obtain ⟨hi, hm, y0⟩ := hinv
    refine j_iload dX12_insert_85 rfl ?_
    refine j_iload_n dX12_insert_87 rfl ?_
    refine j_icmp_gt 110 dX12_insert_88 (by decide) (fun c_88 => ?_) (fun c_88 => ?_)
    · refine j_aload_n dX12_insert_110 rfl ?_
      refine j_iload_n dX12_insert_111 rfl ?_
      refine j_iload_n dX12_insert_112 rfl ?_
      refine j_iconst (v := 1) dX12_insert_113 (by decide) ?_
      refine j_isub dX12_insert_114 ?_
      rw [nI_pred]
      refine j_callV2 dX12_insert_115 vl_X12_834 (c_emptyLine1 (b := a) hm (by omega)) hm.1 rfl (by decide) (by omega) (by omega) (Nat.le_of_ble_eq_true rfl) (fun v_115 u_115 p_115 => ?_)
      obtain ⟨rfl, rfl⟩ := p_115
      dsimp only [rs]
      refine j_aload_n dX12_insert_118 rfl ?_
      refine j_bipush (v := 40) dX12_insert_119 (by decide) ?_
      refine j_iload_n dX12_insert_121 rfl ?_
      refine j_iload_n dX12_insert_122 rfl ?_
      refine j_iconst (v := 1) dX12_insert_123 (by decide) ?_
      refine j_isub dX12_insert_124 ?_
      rw [nI_pred]
      refine j_iload_n dX12_insert_125 rfl ?_
      refine j_if_ne 136 dX12_insert_126 (by decide) (fun c_126 => ?_) (fun c_126 => ?_)
      · refine j_aload_n dX12_insert_136 rfl ?_
        refine j_getI dX12_insert_137 fl_X12_30 rfl hm.1 ?_
        refine j_callV4 dX12_insert_140 vl_X12_818 (c_setLine1 40 (by decide) a (by omega) _ hm) hm.1 rfl (by decide) (by omega) (by omega) (Nat.le_of_ble_eq_true rfl) (fun v_140 u_140 p_140 => ?_)
        obtain ⟨rfl, rfl⟩ := p_140
        dsimp only [rs]
        refine j_iload_n dX12_insert_143 rfl ?_
        refine j_if_ne 160 dX12_insert_144 (by decide) (fun c_144 => ?_) (fun c_144 => ?_)
        · refine j_aload_n dX12_insert_160 rfl ?_
          refine j_dup dX12_insert_161 rfl ?_
          refine j_getI dX12_insert_162 fl_X12_30 rfl hm.1 ?_
          refine j_iconst (v := 1) dX12_insert_165 (by decide) ?_
          refine j_iadd dX12_insert_166 ?_
          refine j_putI dX12_insert_167 fl_X12_30 rfl rfl rfl hm.1 ?_
          refine j_iload_n dX12_insert_170 rfl ?_
          refine j_iconst (v := 1) dX12_insert_171 (by decide) ?_
          refine j_iadd dX12_insert_172 ?_
          exact j_ireturn dX12_insert_173 rfl rfl (⟨rfl, hm, by simp [hI_pI, hI_sI, mNe hm (i := 0) (j := 1) rfl rfl rfl, mNe hm (i := 0) (j := 2) rfl rfl rfl, mNe hm (i := 0) (j := 3) rfl rfl rfl, mNe hm (i := 0) (j := 4) rfl rfl rfl, mNe hm (i := 0) (j := 5) rfl rfl rfl]; exact y0⟩)
        · exact absurd (by decide) c_144
      · exact absurd (by decide) c_126
    · have hlt2 : i + 1 ≤ 6 := by rw [li_6, nI_ltI (by omega) (by omega)] at c_88; omega
      refine j_aload_n dX12_insert_91 rfl ?_
      refine j_iload_n dX12_insert_92 rfl ?_
      refine j_iload dX12_insert_93 rfl ?_
      refine j_iconst (v := 1) dX12_insert_95 (by decide) ?_
      refine j_isub dX12_insert_96 ?_
      rw [nI_pred]
      refine j_iload dX12_insert_97 rfl ?_
      refine j_iload dX12_insert_99 rfl ?_
      refine j_callV4 dX12_insert_101 vl_X12_831 (c_comeLine1 (s := 41) (a := i) (b := i + 1) hm (by decide) (by decide) (by omega) (by omega)) hm.1 rfl (by decide) (by omega) (by omega) (Nat.le_of_ble_eq_true rfl) (fun v_101 u_101 p_101 => ?_)
      obtain ⟨rfl, rfl⟩ := p_101
      dsimp only [rs]
      refine j_iinc dX12_insert_104 rfl ?_
      dsimp only [st1, st2, unL, List.set]
      refine j_goto 85 dX12_insert_107 (by decide) ?_
      refine j_lle (lv' := [some (vr (some (g 0))), some (vi 1), some (vi (nI (a + 1))), some (vi 6), some (vi 41), some (vi (nI ((i + 1) + 1)))]) (by simp [lle, nI_1]) ?_
      exact ih (i + 1) _ (by omega) ⟨by omega, hm, by simp [hI_pI, hI_sI, mNe hm (i := 0) (j := 1) rfl rfl rfl, mNe hm (i := 0) (j := 2) rfl rfl rfl, mNe hm (i := 0) (j := 3) rfl rfl rfl, mNe hm (i := 0) (j := 4) rfl rfl rfl, mNe hm (i := 0) (j := 5) rfl rfl rfl]; exact y0⟩

set_option maxRecDepth 20000 in
theorem e_insert1 {h : Hp} {g : Nat → Nat} (y : Int32) (hf : FM h g) : Con mX12_insert 4 0 0 [vr (some (g 0)), vi 1, vi y] h (an g (if 1 ≤ y ∧ y ≤ 7 then 7 else 0) (if 1 ≤ y ∧ y ≤ 7 then 0 else 2)) := by
  obtain ⟨hm, z0, z1, z2, z3, z4, z5, z9, z10, z11, z64⟩ := id hf
  refine con_of rfl (Nat.le_of_ble_eq_true rfl) (by decide) ?_
  show J mX12_insert 4 0 0 _ 0 [some (vr (some (g 0))), some (vi 1), some (vi y), none, none, none] [] h
  refine j_aload_n dX12_insert_0 rfl ?_
  refine j_iconst (v := 0) dX12_insert_1 (by decide) ?_
  refine j_putI dX12_insert_2 fl_X12_202 rfl rfl rfl hm.1 ?_
  rw [pI_same (fmI z0 0 (v := 0) rfl)]
  refine j_iload_n dX12_insert_5 rfl ?_
  refine j_iconst (v := 0) dX12_insert_6 (by decide) ?_
  refine j_iconst (v := 1) dX12_insert_7 (by decide) ?_
  refine j_callS3 dX12_insert_8 sl_X12_220 (c_in _ _ _) rfl (by decide) (by omega) (by omega) (Nat.le_of_ble_eq_true rfl) (fun v_8 u_8 p_8 => ?_)
  obtain ⟨e_8, rfl⟩ := p_8
  rw [e_8]
  clear e_8
  dsimp only [rs]
  refine j_if_ne 20 dX12_insert_11 (by decide) (fun c_11 => ?_) (fun c_11 => ?_)
  · refine j_aload_n dX12_insert_20 rfl ?_
    refine j_bipush (v := 40) dX12_insert_21 (by decide) ?_
    refine j_iload_n dX12_insert_23 rfl ?_
    refine j_callV2 dX12_insert_24 vl_X12_209 (c_linesOf1 40 (by decide) hm) hm.1 rfl (by decide) (by omega) (by omega) (Nat.le_of_ble_eq_true rfl) (fun v_24 u_24 p_24 => ?_)
    obtain ⟨e_24, rfl⟩ := p_24
    rw [e_24]
    clear e_24
    dsimp only [rs]
    rw [show hI h (g 2) 40 = 6 by rw [z2]; rfl]
    refine j_istore_n dX12_insert_27 (by decide) ?_
    dsimp only [st1, st2, unL, List.set]
    refine j_iload_n dX12_insert_28 rfl ?_
    refine j_iconst (v := 1) dX12_insert_29 (by decide) ?_
    refine j_iload_n dX12_insert_30 rfl ?_
    refine j_iconst (v := 1) dX12_insert_31 (by decide) ?_
    refine j_iadd dX12_insert_32 ?_
    refine j_callS3 dX12_insert_33 sl_X12_220 (c_in _ _ _) rfl (by decide) (by omega) (by omega) (Nat.le_of_ble_eq_true rfl) (fun v_33 u_33 p_33 => ?_)
    obtain ⟨e_33, rfl⟩ := p_33
    rw [e_33]
    clear e_33
    dsimp only [rs]
    refine j_if_ne 45 dX12_insert_36 (by decide) (fun c_36 => ?_) (fun c_36 => ?_)
    · have q : 1 ≤ y ∧ y ≤ 7 := b2_n.mp c_36
      rw [if_pos q, if_pos q]
      obtain ⟨a0, ha0, hy, -⟩ := nI_ex (x := y) (n := 7) (by simp only [le_i, Int32.reduceToInt] at *; omega) (by simp only [le_i, Int32.reduceToInt] at *; omega)
      subst hy
      simp only [le_i, Int32.reduceToInt, nI_toInt (n := a0) (by omega)] at q
      obtain ⟨a, rfl⟩ : ∃ a, a0 = a + 1 := ⟨a0 - 1, by omega⟩
      refine j_iload_n dX12_insert_45 rfl ?_
      refine j_iload_n dX12_insert_46 rfl ?_
      refine j_if_ne 55 dX12_insert_47 (by decide) (fun c_47 => ?_) (fun c_47 => ?_)
      · refine j_bipush (v := 10) dX12_insert_55 (by decide) ?_
        refine j_icmp_ne 66 dX12_insert_57 (by decide) (fun c_57 => ?_) (fun c_57 => ?_)
        · refine j_aload_n dX12_insert_66 rfl ?_
          refine j_callV0 dX12_insert_67 vl_X12_340 (e_step hf) hm.1 rfl (by decide) (by omega) (by omega) (Nat.le_of_ble_eq_true rfl) (fun v_67 u_67 p_67 => ?_)
          obtain ⟨rfl, hm, y0, -⟩ := p_67
          dsimp only [rs]
          refine j_istore dX12_insert_70 (by decide) ?_
          dsimp only [st1, st2, unL, List.set]
          refine j_aload_n dX12_insert_72 rfl ?_
          refine j_bipush (v := 40) dX12_insert_73 (by decide) ?_
          refine j_iload_n dX12_insert_75 rfl ?_
          refine j_iload_n dX12_insert_76 rfl ?_
          refine j_iconst (v := 1) dX12_insert_77 (by decide) ?_
          refine j_iadd dX12_insert_78 ?_
          refine j_callV3 dX12_insert_79 vl_X12_828 (c_setLines1 40 (by decide) _ hm) hm.1 rfl (by decide) (by omega) (by omega) (Nat.le_of_ble_eq_true rfl) (fun v_79 u_79 p_79 => ?_)
          obtain ⟨rfl, rfl⟩ := p_79
          dsimp only [rs]
          refine j_iload_n dX12_insert_82 rfl ?_
          refine j_istore dX12_insert_83 (by decide) ?_
          dsimp only [st1, st2, unL, List.set]
          refine l_ins1 (a := a) (by omega) 8 a _ (by omega) ⟨by omega, hm, ?_⟩
          simp [hI_pI, mNe hm (i := 0) (j := 1) rfl rfl rfl, mNe hm (i := 0) (j := 2) rfl rfl rfl, mNe hm (i := 0) (j := 3) rfl rfl rfl, mNe hm (i := 0) (j := 4) rfl rfl rfl, mNe hm (i := 0) (j := 5) rfl rfl rfl]
          exact y0
        · exact absurd (by decide) c_57
      · exact absurd (by decide) c_47
    · refine j_aload_n dX12_insert_39 rfl ?_
      refine j_iconst (v := 2) dX12_insert_40 (by decide) ?_
      refine j_callV1 dX12_insert_41 vl_X12_237 (c_throwing 2 hm) hm.1 rfl (by decide) (by omega) (by omega) (Nat.le_of_ble_eq_true rfl) (fun v_41 u_41 p_41 => ?_)
      obtain ⟨e_, rfl⟩ := p_41
      rw [e_]
      clear e_
      dsimp only [rs]
      exact j_ireturn dX12_insert_44 rfl rfl ⟨by rw [if_neg (show ¬ (1 ≤ y ∧ y ≤ 7) from b2_0.mp (Classical.not_not.mp c_36))], hm, by rw [hI_pI, if_pos ⟨rfl, rfl⟩]; exact (if_neg (b2_0.mp (Classical.not_not.mp c_36))).symm⟩
  · exact absurd (by decide) c_11

set_option maxRecDepth 20000 in
theorem l_goLine1 {g : Nat → Nat} {a s m : Nat} (ha : a ≤ m) (hmw : m < 10) (hs : s < 122) (hs4 : s ≠ 40) : ∀ (n : Nat) (i : Nat) (u : Hp), m - i < n → i ≤ m ∧ KM g u → J mX12_goLine 3 0 0 (nx (fun v u => v = none ∧ KM g u)) 12 [some (vr (some (g 0))), some (vi 1), some (vi (nI (a + 1))), some (vi (nI s)), some (vi (nI (m + 1))), some (vi (nI (i + 1)))] [] u := by
  intro n
  induction n with
  | zero => intro i u hlt; omega
  | succ n ih =>
    intro i u hlt hinv
    obtain ⟨hi, hm, y0⟩ := hinv
    refine j_iload dX12_goLine_12 rfl ?_
    refine j_iload dX12_goLine_14 rfl ?_
    refine j_icmp_ge 37 dX12_goLine_16 (by decide) (fun c_16 => ?_) (fun c_16 => ?_)
    · refine j_aload_n dX12_goLine_37 rfl ?_
      refine j_iload_n dX12_goLine_38 rfl ?_
      refine j_iload dX12_goLine_39 rfl ?_
      refine j_iconst (v := 1) dX12_goLine_41 (by decide) ?_
      refine j_isub dX12_goLine_42 ?_
      rw [nI_pred]
      refine j_callV2 dX12_goLine_43 vl_X12_834 (c_emptyLine1 (b := m) hm (by omega)) hm.1 rfl (by decide) (by omega) (by omega) (Nat.le_of_ble_eq_true rfl) (fun v_43 u_43 p_43 => ?_)
      obtain ⟨rfl, rfl⟩ := p_43
      dsimp only [rs]
      refine j_aload_n dX12_goLine_46 rfl ?_
      refine j_bipush (v := 40) dX12_goLine_47 (by decide) ?_
      refine j_iload_n dX12_goLine_49 rfl ?_
      refine j_iload dX12_goLine_50 rfl ?_
      refine j_iconst (v := 1) dX12_goLine_52 (by decide) ?_
      refine j_isub dX12_goLine_53 ?_
      refine j_callV3 dX12_goLine_54 vl_X12_828 (c_setLines1 40 (by decide) _ hm) hm.1 rfl (by decide) (by omega) (by omega) (Nat.le_of_ble_eq_true rfl) (fun v_54 u_54 p_54 => ?_)
      obtain ⟨rfl, rfl⟩ := p_54
      dsimp only [rs]
      exact j_return dX12_goLine_57 rfl (⟨rfl, hm, by simp [hI_pI, hI_sI, mNe hm (i := 0) (j := 1) rfl rfl rfl, mNe hm (i := 0) (j := 2) rfl rfl rfl, mNe hm (i := 0) (j := 3) rfl rfl rfl, mNe hm (i := 0) (j := 4) rfl rfl rfl, mNe hm (i := 0) (j := 5) rfl rfl rfl]; exact y0⟩)
    · have hlt2 : i < m := by rw [nI_leI (by omega) (by omega)] at c_16; omega
      refine j_aload_n dX12_goLine_19 rfl ?_
      refine j_iload_n dX12_goLine_20 rfl ?_
      refine j_iload dX12_goLine_21 rfl ?_
      refine j_iload_n dX12_goLine_23 rfl ?_
      refine j_iload dX12_goLine_24 rfl ?_
      refine j_iconst (v := 1) dX12_goLine_26 (by decide) ?_
      refine j_isub dX12_goLine_27 ?_
      rw [nI_pred]
      refine j_callV4 dX12_goLine_28 vl_X12_831 (c_comeLine1 (s := s) (a := i + 1) (b := i) hm hs hs4 (by omega) (by omega)) hm.1 rfl (by decide) (by omega) (by omega) (Nat.le_of_ble_eq_true rfl) (fun v_28 u_28 p_28 => ?_)
      obtain ⟨rfl, rfl⟩ := p_28
      dsimp only [rs]
      refine j_iinc dX12_goLine_31 rfl ?_
      dsimp only [st1, st2, unL, List.set]
      refine j_goto 12 dX12_goLine_34 (by decide) ?_
      refine j_lle (lv' := [some (vr (some (g 0))), some (vi 1), some (vi (nI (a + 1))), some (vi (nI s)), some (vi (nI (m + 1))), some (vi (nI ((i + 1) + 1)))]) (by simp [lle, nI_1]) ?_
      exact ih (i + 1) _ (by omega) ⟨by omega, hm, by simp [hI_pI, hI_sI, mNe hm (i := 0) (j := 1) rfl rfl rfl, mNe hm (i := 0) (j := 2) rfl rfl rfl, mNe hm (i := 0) (j := 3) rfl rfl rfl, mNe hm (i := 0) (j := 4) rfl rfl rfl, mNe hm (i := 0) (j := 5) rfl rfl rfl]; exact y0⟩

set_option maxRecDepth 20000 in
theorem e_goLine1 {h : Hp} {g : Nat → Nat} {a s m : Nat} (hk : KM g h) (hn : hI h (g 2) 40 = nI (m + 1)) (ha : a ≤ m) (hmw : m < 10) (hs : s < 122) (hs4 : s ≠ 40) : Con mX12_goLine 3 0 0 [vr (some (g 0)), vi 1, vi (nI (a + 1)), vi (nI s)] h (fun v u => v = none ∧ KM g u) := by
  obtain ⟨hm, y0⟩ := id hk
  refine con_of rfl (Nat.le_of_ble_eq_true rfl) (by decide) ?_
  show J mX12_goLine 3 0 0 _ 0 [some (vr (some (g 0))), some (vi 1), some (vi (nI (a + 1))), some (vi (nI s)), none, none] [] h
  refine j_aload_n dX12_goLine_0 rfl ?_
  refine j_bipush (v := 40) dX12_goLine_1 (by decide) ?_
  refine j_iload_n dX12_goLine_3 rfl ?_
  refine j_callV2 dX12_goLine_4 vl_X12_209 (c_linesOf1 40 (by decide) hm) hm.1 rfl (by decide) (by omega) (by omega) (Nat.le_of_ble_eq_true rfl) (fun v_4 u_4 p_4 => ?_)
  obtain ⟨e_4, rfl⟩ := p_4
  rw [e_4]
  clear e_4
  dsimp only [rs]
  rw [hn]
  refine j_istore dX12_goLine_7 (by decide) ?_
  dsimp only [st1, st2, unL, List.set]
  refine j_iload_n dX12_goLine_9 rfl ?_
  refine j_istore dX12_goLine_10 (by decide) ?_
  dsimp only [st1, st2, unL, List.set]
  exact l_goLine1 ha hmw hs hs4 (m + 1) a _ (by omega) ⟨ha, hk⟩

set_option maxRecDepth 20000 in
theorem e_remove1 {h : Hp} {g : Nat → Nat} (y : Int32) (hf : FM h g) : Con mX12_remove 4 0 0 [vr (some (g 0)), vi 1, vi y] h (an g (if 1 ≤ y ∧ y ≤ 6 then 5 else 0) (if 1 ≤ y ∧ y ≤ 6 then 0 else 2)) := by
  obtain ⟨hm, z0, z1, z2, z3, z4, z5, z9, z10, z11, z64⟩ := id hf
  refine con_of rfl (Nat.le_of_ble_eq_true rfl) (by decide) ?_
  show J mX12_remove 4 0 0 _ 0 [some (vr (some (g 0))), some (vi 1), some (vi y), none, none] [] h
  refine j_aload_n dX12_remove_0 rfl ?_
  refine j_iconst (v := 0) dX12_remove_1 (by decide) ?_
  refine j_putI dX12_remove_2 fl_X12_202 rfl rfl rfl hm.1 ?_
  rw [pI_same (fmI z0 0 (v := 0) rfl)]
  refine j_iload_n dX12_remove_5 rfl ?_
  refine j_iconst (v := 0) dX12_remove_6 (by decide) ?_
  refine j_iconst (v := 1) dX12_remove_7 (by decide) ?_
  refine j_callS3 dX12_remove_8 sl_X12_220 (c_in _ _ _) rfl (by decide) (by omega) (by omega) (Nat.le_of_ble_eq_true rfl) (fun v_8 u_8 p_8 => ?_)
  obtain ⟨e_8, rfl⟩ := p_8
  rw [e_8]
  clear e_8
  dsimp only [rs]
  refine j_if_ne 20 dX12_remove_11 (by decide) (fun c_11 => ?_) (fun c_11 => ?_)
  · refine j_aload_n dX12_remove_20 rfl ?_
    refine j_bipush (v := 40) dX12_remove_21 (by decide) ?_
    refine j_iload_n dX12_remove_23 rfl ?_
    refine j_callV2 dX12_remove_24 vl_X12_209 (c_linesOf1 40 (by decide) hm) hm.1 rfl (by decide) (by omega) (by omega) (Nat.le_of_ble_eq_true rfl) (fun v_24 u_24 p_24 => ?_)
    obtain ⟨e_24, rfl⟩ := p_24
    rw [e_24]
    clear e_24
    dsimp only [rs]
    rw [show hI h (g 2) 40 = 6 by rw [z2]; rfl]
    refine j_istore_n dX12_remove_27 (by decide) ?_
    dsimp only [st1, st2, unL, List.set]
    refine j_iload_n dX12_remove_28 rfl ?_
    refine j_iconst (v := 1) dX12_remove_29 (by decide) ?_
    refine j_iload_n dX12_remove_30 rfl ?_
    refine j_callS3 dX12_remove_31 sl_X12_220 (c_in _ _ _) rfl (by decide) (by omega) (by omega) (Nat.le_of_ble_eq_true rfl) (fun v_31 u_31 p_31 => ?_)
    obtain ⟨e_31, rfl⟩ := p_31
    rw [e_31]
    clear e_31
    dsimp only [rs]
    refine j_if_ne 43 dX12_remove_34 (by decide) (fun c_34 => ?_) (fun c_34 => ?_)
    · have q : 1 ≤ y ∧ y ≤ 6 := b2_n.mp c_34
      rw [if_pos q, if_pos q]
      obtain ⟨a0, ha0, hy, -⟩ := nI_ex (x := y) (n := 6) (by simp only [le_i, Int32.reduceToInt] at *; omega) (by simp only [le_i, Int32.reduceToInt] at *; omega)
      subst hy
      simp only [le_i, Int32.reduceToInt, nI_toInt (n := a0) (by omega)] at q
      obtain ⟨a, rfl⟩ : ∃ a, a0 = a + 1 := ⟨a0 - 1, by omega⟩
      refine j_iload_n dX12_remove_43 rfl ?_
      refine j_iconst (v := 1) dX12_remove_44 (by decide) ?_
      refine j_icmp_ne 54 dX12_remove_45 (by decide) (fun c_45 => ?_) (fun c_45 => ?_)
      · refine j_aload_n dX12_remove_54 rfl ?_
        refine j_callV0 dX12_remove_55 vl_X12_340 (e_step hf) hm.1 rfl (by decide) (by omega) (by omega) (Nat.le_of_ble_eq_true rfl) (fun v_55 u_55 p_55 => ?_)
        obtain ⟨rfl, hm, y0, y1, y2, -⟩ := p_55
        dsimp only [rs]
        refine j_istore dX12_remove_58 (by decide) ?_
        dsimp only [st1, st2, unL, List.set]
        refine j_aload_n dX12_remove_60 rfl ?_
        refine j_iload_n dX12_remove_61 rfl ?_
        refine j_iload_n dX12_remove_62 rfl ?_
        refine j_iload dX12_remove_63 rfl ?_
        refine j_callV3 dX12_remove_65 vl_X12_837 (e_goLine1 (a := a) (s := 41) (m := 5) ⟨hm, y0⟩ (by rw [y2]; rfl) (by omega) (by decide) (by decide) (by decide)) hm.1 rfl (by decide) (by omega) (by omega) (Nat.le_of_ble_eq_true rfl) (fun v_65 u_65 p_65 => ?_)
        obtain ⟨rfl, hm2, y0⟩ := p_65
        dsimp only [rs]
        refine j_iload_n dX12_remove_68 rfl ?_
        refine j_iconst (v := 1) dX12_remove_69 (by decide) ?_
        refine j_isub dX12_remove_70 ?_
        exact j_ireturn dX12_remove_71 rfl rfl (⟨rfl, hm2, y0⟩)
      · exact absurd (by decide) c_45
    · refine j_aload_n dX12_remove_37 rfl ?_
      refine j_iconst (v := 2) dX12_remove_38 (by decide) ?_
      refine j_callV1 dX12_remove_39 vl_X12_237 (c_throwing 2 hm) hm.1 rfl (by decide) (by omega) (by omega) (Nat.le_of_ble_eq_true rfl) (fun v_39 u_39 p_39 => ?_)
      obtain ⟨e_, rfl⟩ := p_39
      rw [e_]
      clear e_
      dsimp only [rs]
      exact j_ireturn dX12_remove_42 rfl rfl ⟨by rw [if_neg (b2_0.mp (Classical.not_not.mp c_34))], hm, by rw [hI_pI, if_pos ⟨rfl, rfl⟩]; exact (if_neg (b2_0.mp (Classical.not_not.mp c_34))).symm⟩
  · exact absurd (by decide) c_11

set_option maxRecDepth 20000 in
theorem l_move1up {g : Nat → Nat} {a b : Nat} (ha : a < 6) (hb : b < 6) : ∀ (n : Nat) (i : Nat) (u : Hp), b - i < n → a ≤ i ∧ i ≤ b ∧ KM g u → J mX12_move 4 0 0 (nx (an g (if nI (a + 1) = nI (b + 1) then 0 else (nI (b + 1) - nI (a + 1)) * 1 + 1) 0)) 76 [some (vr (some (g 0))), some (vi 1), some (vi (nI (a + 1))), some (vi (nI (b + 1))), some (vi 6), some (vi 41), some (vi 1), some (vi (nI (i + 1)))] [] u := by
  intro n
  induction n with
  | zero => intro i u hlt; omega
  | succ n ih =>
    intro i u hlt hinv
    obtain ⟨hi1, hi2, hm, y0⟩ := hinv
    refine j_iload dX12_move_76 rfl ?_
    refine j_iload_n dX12_move_78 rfl ?_
    refine j_icmp_eq 110 dX12_move_79 (by decide) (fun c_79 => ?_) (fun c_79 => ?_)
    · refine j_aload_n dX12_move_110 rfl ?_
      refine j_iload_n dX12_move_111 rfl ?_
      refine j_iload_n dX12_move_112 rfl ?_
      refine j_iconst (v := 1) dX12_move_113 (by decide) ?_
      refine j_isub dX12_move_114 ?_
      rw [nI_pred]
      refine j_iload dX12_move_115 rfl ?_
      refine j_iload_n dX12_move_117 rfl ?_
      refine j_iconst (v := 1) dX12_move_118 (by decide) ?_
      refine j_isub dX12_move_119 ?_
      rw [nI_pred]
      refine j_callV4 dX12_move_120 vl_X12_831 (c_comeLine1 (s := 41) (a := a) (b := b) hm (by decide) (by decide) (by omega) (by omega)) hm.1 rfl (by decide) (by omega) (by omega) (Nat.le_of_ble_eq_true rfl) (fun v_120 u_120 p_120 => ?_)
      obtain ⟨rfl, rfl⟩ := p_120
      dsimp only [rs]
      refine j_iload_n dX12_move_123 rfl ?_
      refine j_iload_n dX12_move_124 rfl ?_
      refine j_icmp_ne 132 dX12_move_125 (by decide) (fun c_125 => ?_) (fun c_125 => ?_)
      · refine j_iload_n dX12_move_132 rfl ?_
        refine j_iload_n dX12_move_133 rfl ?_
        refine j_isub dX12_move_134 ?_
        refine j_iload dX12_move_135 rfl ?_
        refine j_imul dX12_move_137 ?_
        refine j_iconst (v := 1) dX12_move_138 (by decide) ?_
        refine j_iadd dX12_move_139 ?_
        exact j_ireturn dX12_move_140 rfl rfl (⟨by first | (rw [if_pos (Classical.not_not.mp c_125)]; done) | rw [if_neg c_125], hm, by simp [hI_pI, hI_sI, mNe hm (i := 0) (j := 1) rfl rfl rfl, mNe hm (i := 0) (j := 2) rfl rfl rfl, mNe hm (i := 0) (j := 3) rfl rfl rfl, mNe hm (i := 0) (j := 4) rfl rfl rfl, mNe hm (i := 0) (j := 5) rfl rfl rfl]; exact y0⟩)
      · refine j_iconst (v := 0) dX12_move_128 (by decide) ?_
        refine j_goto 140 dX12_move_129 (by decide) ?_
        exact j_ireturn dX12_move_140 rfl rfl (⟨by first | (rw [if_pos (Classical.not_not.mp c_125)]; done) | rw [if_neg c_125], hm, by simp [hI_pI, hI_sI, mNe hm (i := 0) (j := 1) rfl rfl rfl, mNe hm (i := 0) (j := 2) rfl rfl rfl, mNe hm (i := 0) (j := 3) rfl rfl rfl, mNe hm (i := 0) (j := 4) rfl rfl rfl, mNe hm (i := 0) (j := 5) rfl rfl rfl]; exact y0⟩)
    · have hne : i ≠ b := fun e => c_79 (by rw [e])
      refine j_aload_n dX12_move_82 rfl ?_
      refine j_iload_n dX12_move_83 rfl ?_
      refine j_iload dX12_move_84 rfl ?_
      refine j_iload dX12_move_86 rfl ?_
      refine j_iadd dX12_move_88 ?_
      refine j_iconst (v := 1) dX12_move_89 (by decide) ?_
      refine j_isub dX12_move_90 ?_
      rw [nI_1, nI_pred]
      refine j_iload dX12_move_91 rfl ?_
      refine j_iload dX12_move_93 rfl ?_
      refine j_iconst (v := 1) dX12_move_95 (by decide) ?_
      refine j_isub dX12_move_96 ?_
      rw [nI_pred]
      refine j_callV4 dX12_move_97 vl_X12_831 (c_comeLine1 (s := 41) (a := i + 1) (b := i) hm (by decide) (by decide) (by omega) (by omega)) hm.1 rfl (by decide) (by omega) (by omega) (Nat.le_of_ble_eq_true rfl) (fun v_97 u_97 p_97 => ?_)
      obtain ⟨rfl, rfl⟩ := p_97
      dsimp only [rs]
      refine j_iload dX12_move_100 rfl ?_
      refine j_iload dX12_move_102 rfl ?_
      refine j_iadd dX12_move_104 ?_
      refine j_istore dX12_move_105 (by decide) ?_
      dsimp only [st1, st2, unL, List.set]
      refine j_goto 76 dX12_move_107 (by decide) ?_
      refine j_lle (lv' := [some (vr (some (g 0))), some (vi 1), some (vi (nI (a + 1))), some (vi (nI (b + 1))), some (vi 6), some (vi 41), some (vi 1), some (vi (nI ((i + 1) + 1)))]) (by simp [lle, nI_1, pk_m1]) ?_
      exact ih (i + 1) _ (by omega) ⟨by omega, by omega, hm, by simp [hI_pI, hI_sI, mNe hm (i := 0) (j := 1) rfl rfl rfl, mNe hm (i := 0) (j := 2) rfl rfl rfl, mNe hm (i := 0) (j := 3) rfl rfl rfl, mNe hm (i := 0) (j := 4) rfl rfl rfl, mNe hm (i := 0) (j := 5) rfl rfl rfl]; exact y0⟩

set_option maxRecDepth 20000 in
theorem l_move1dn {g : Nat → Nat} {a b : Nat} (ha : a < 6) (hb : b < 6) : ∀ (n : Nat) (i : Nat) (u : Hp), i - b < n → b ≤ i ∧ i ≤ a ∧ KM g u → J mX12_move 4 0 0 (nx (an g (if nI (a + 1) = nI (b + 1) then 0 else (nI (b + 1) - nI (a + 1)) * (-1) + 1) 0)) 76 [some (vr (some (g 0))), some (vi 1), some (vi (nI (a + 1))), some (vi (nI (b + 1))), some (vi 6), some (vi 41), some (vi (-1)), some (vi (nI (i + 1)))] [] u := by
  intro n
  induction n with
  | zero => intro i u hlt; omega
  | succ n ih =>
    intro i u hlt hinv
    obtain ⟨hi1, hi2, hm, y0⟩ := hinv
    refine j_iload dX12_move_76 rfl ?_
    refine j_iload_n dX12_move_78 rfl ?_
    refine j_icmp_eq 110 dX12_move_79 (by decide) (fun c_79 => ?_) (fun c_79 => ?_)
    · refine j_aload_n dX12_move_110 rfl ?_
      refine j_iload_n dX12_move_111 rfl ?_
      refine j_iload_n dX12_move_112 rfl ?_
      refine j_iconst (v := 1) dX12_move_113 (by decide) ?_
      refine j_isub dX12_move_114 ?_
      rw [nI_pred]
      refine j_iload dX12_move_115 rfl ?_
      refine j_iload_n dX12_move_117 rfl ?_
      refine j_iconst (v := 1) dX12_move_118 (by decide) ?_
      refine j_isub dX12_move_119 ?_
      rw [nI_pred]
      refine j_callV4 dX12_move_120 vl_X12_831 (c_comeLine1 (s := 41) (a := a) (b := b) hm (by decide) (by decide) (by omega) (by omega)) hm.1 rfl (by decide) (by omega) (by omega) (Nat.le_of_ble_eq_true rfl) (fun v_120 u_120 p_120 => ?_)
      obtain ⟨rfl, rfl⟩ := p_120
      dsimp only [rs]
      refine j_iload_n dX12_move_123 rfl ?_
      refine j_iload_n dX12_move_124 rfl ?_
      refine j_icmp_ne 132 dX12_move_125 (by decide) (fun c_125 => ?_) (fun c_125 => ?_)
      · refine j_iload_n dX12_move_132 rfl ?_
        refine j_iload_n dX12_move_133 rfl ?_
        refine j_isub dX12_move_134 ?_
        refine j_iload dX12_move_135 rfl ?_
        refine j_imul dX12_move_137 ?_
        refine j_iconst (v := 1) dX12_move_138 (by decide) ?_
        refine j_iadd dX12_move_139 ?_
        exact j_ireturn dX12_move_140 rfl rfl (⟨by first | (rw [if_pos (Classical.not_not.mp c_125)]; done) | rw [if_neg c_125], hm, by simp [hI_pI, hI_sI, mNe hm (i := 0) (j := 1) rfl rfl rfl, mNe hm (i := 0) (j := 2) rfl rfl rfl, mNe hm (i := 0) (j := 3) rfl rfl rfl, mNe hm (i := 0) (j := 4) rfl rfl rfl, mNe hm (i := 0) (j := 5) rfl rfl rfl]; exact y0⟩)
      · refine j_iconst (v := 0) dX12_move_128 (by decide) ?_
        refine j_goto 140 dX12_move_129 (by decide) ?_
        exact j_ireturn dX12_move_140 rfl rfl (⟨by first | (rw [if_pos (Classical.not_not.mp c_125)]; done) | rw [if_neg c_125], hm, by simp [hI_pI, hI_sI, mNe hm (i := 0) (j := 1) rfl rfl rfl, mNe hm (i := 0) (j := 2) rfl rfl rfl, mNe hm (i := 0) (j := 3) rfl rfl rfl, mNe hm (i := 0) (j := 4) rfl rfl rfl, mNe hm (i := 0) (j := 5) rfl rfl rfl]; exact y0⟩)
    · have hne : i ≠ b := fun e => c_79 (by rw [e])
      obtain ⟨j, rfl⟩ : ∃ j, i = j + 1 := ⟨i - 1, by omega⟩
      refine j_aload_n dX12_move_82 rfl ?_
      refine j_iload_n dX12_move_83 rfl ?_
      refine j_iload dX12_move_84 rfl ?_
      refine j_iload dX12_move_86 rfl ?_
      refine j_iadd dX12_move_88 ?_
      refine j_iconst (v := 1) dX12_move_89 (by decide) ?_
      refine j_isub dX12_move_90 ?_
      rw [pk_m1, nI_pred]
      refine j_iload dX12_move_91 rfl ?_
      refine j_iload dX12_move_93 rfl ?_
      refine j_iconst (v := 1) dX12_move_95 (by decide) ?_
      refine j_isub dX12_move_96 ?_
      rw [nI_pred]
      refine j_callV4 dX12_move_97 vl_X12_831 (c_comeLine1 (s := 41) (a := j) (b := j + 1) hm (by decide) (by decide) (by omega) (by omega)) hm.1 rfl (by decide) (by omega) (by omega) (Nat.le_of_ble_eq_true rfl) (fun v_97 u_97 p_97 => ?_)
      obtain ⟨rfl, rfl⟩ := p_97
      dsimp only [rs]
      refine j_iload dX12_move_100 rfl ?_
      refine j_iload dX12_move_102 rfl ?_
      refine j_iadd dX12_move_104 ?_
      refine j_istore dX12_move_105 (by decide) ?_
      dsimp only [st1, st2, unL, List.set]
      refine j_goto 76 dX12_move_107 (by decide) ?_
      refine j_lle (lv' := [some (vr (some (g 0))), some (vi 1), some (vi (nI (a + 1))), some (vi (nI (b + 1))), some (vi 6), some (vi 41), some (vi (-1)), some (vi (nI (j + 1)))]) (by simp [lle, nI_1, pk_m1]) ?_
      exact ih j _ (by omega) ⟨by omega, by omega, hm, by simp [hI_pI, hI_sI, mNe hm (i := 0) (j := 1) rfl rfl rfl, mNe hm (i := 0) (j := 2) rfl rfl rfl, mNe hm (i := 0) (j := 3) rfl rfl rfl, mNe hm (i := 0) (j := 4) rfl rfl rfl, mNe hm (i := 0) (j := 5) rfl rfl rfl]; exact y0⟩

set_option maxRecDepth 20000 in
theorem e_move1 {h : Hp} {g : Nat → Nat} (y z : Int32) (hf : FM h g) : Con mX12_move 4 0 0 [vr (some (g 0)), vi 1, vi y, vi z] h (an g (mvR 6 y z) (if (1 ≤ y ∧ y ≤ 6 ∧ 1 ≤ z ∧ z ≤ 6) then 0 else 2)) := by
  obtain ⟨hm, z0, z1, z2, z3, z4, z5, z9, z10, z11, z64⟩ := id hf
  refine con_of rfl (Nat.le_of_ble_eq_true rfl) (by decide) ?_
  show J mX12_move 4 0 0 _ 0 [some (vr (some (g 0))), some (vi 1), some (vi y), some (vi z), none, none, none, none] [] h
  refine j_aload_n dX12_move_0 rfl ?_
  refine j_iconst (v := 0) dX12_move_1 (by decide) ?_
  refine j_putI dX12_move_2 fl_X12_202 rfl rfl rfl hm.1 ?_
  rw [pI_same (fmI z0 0 (v := 0) rfl)]
  refine j_iload_n dX12_move_5 rfl ?_
  refine j_iconst (v := 0) dX12_move_6 (by decide) ?_
  refine j_iconst (v := 1) dX12_move_7 (by decide) ?_
  refine j_callS3 dX12_move_8 sl_X12_220 (c_in _ _ _) rfl (by decide) (by omega) (by omega) (Nat.le_of_ble_eq_true rfl) (fun v_8 u_8 p_8 => ?_)
  obtain ⟨e_8, rfl⟩ := p_8
  rw [e_8]
  clear e_8
  dsimp only [rs]
  refine j_if_ne 20 dX12_move_11 (by decide) (fun c_11 => ?_) (fun c_11 => ?_)
  · refine j_aload_n dX12_move_20 rfl ?_
    refine j_bipush (v := 40) dX12_move_21 (by decide) ?_
    refine j_iload_n dX12_move_23 rfl ?_
    refine j_callV2 dX12_move_24 vl_X12_209 (c_linesOf1 40 (by decide) hm) hm.1 rfl (by decide) (by omega) (by omega) (Nat.le_of_ble_eq_true rfl) (fun v_24 u_24 p_24 => ?_)
    obtain ⟨e_24, rfl⟩ := p_24
    rw [e_24]
    clear e_24
    dsimp only [rs]
    rw [show hI h (g 2) 40 = 6 by rw [z2]; rfl]
    refine j_istore dX12_move_27 (by decide) ?_
    dsimp only [st1, st2, unL, List.set]
    refine j_iload_n dX12_move_29 rfl ?_
    refine j_iconst (v := 1) dX12_move_30 (by decide) ?_
    refine j_iload dX12_move_31 rfl ?_
    refine j_callS3 dX12_move_33 sl_X12_220 (c_in _ _ _) rfl (by decide) (by omega) (by omega) (Nat.le_of_ble_eq_true rfl) (fun v_33 u_33 p_33 => ?_)
    obtain ⟨e_33, rfl⟩ := p_33
    rw [e_33]
    clear e_33
    dsimp only [rs]
    refine j_if_eq 49 dX12_move_36 (by decide) (fun c_36 => ?_) (fun c_36 => ?_)
    · refine j_aload_n dX12_move_49 rfl ?_
      refine j_iconst (v := 2) dX12_move_50 (by decide) ?_
      refine j_callV1 dX12_move_51 vl_X12_237 (c_throwing 2 hm) hm.1 rfl (by decide) (by omega) (by omega) (Nat.le_of_ble_eq_true rfl) (fun v_51 u_51 p_51 => ?_)
      obtain ⟨e_, rfl⟩ := p_51
      rw [e_]
      clear e_
      dsimp only [rs]
      have q : ¬ (1 ≤ y ∧ y ≤ 6 ∧ 1 ≤ z ∧ z ≤ 6) := fun w => by first | exact b2_0.mp (Classical.not_not.mp c_46) ⟨w.2.2.1, w.2.2.2⟩ | exact b2_0.mp c_36 ⟨w.1, w.2.1⟩
      exact j_ireturn dX12_move_54 rfl rfl ⟨by rw [mvR, if_neg q], hm, by rw [hI_pI, if_pos ⟨rfl, rfl⟩, if_neg q]⟩
    · refine j_iload_n dX12_move_39 rfl ?_
      refine j_iconst (v := 1) dX12_move_40 (by decide) ?_
      refine j_iload dX12_move_41 rfl ?_
      refine j_callS3 dX12_move_43 sl_X12_220 (c_in _ _ _) rfl (by decide) (by omega) (by omega) (Nat.le_of_ble_eq_true rfl) (fun v_43 u_43 p_43 => ?_)
      obtain ⟨e_43, rfl⟩ := p_43
      rw [e_43]
      clear e_43
      dsimp only [rs]
      refine j_if_ne 55 dX12_move_46 (by decide) (fun c_46 => ?_) (fun c_46 => ?_)
      · have q1 := b2_nn.mp c_36
        have q2 := b2_n.mp c_46
        have qq : (1 ≤ y ∧ y ≤ 6 ∧ 1 ≤ z ∧ z ≤ 6) := ⟨q1.1, q1.2, q2.1, q2.2⟩
        rw [mvR, if_pos qq, if_pos qq]
        obtain ⟨a0, ha0, hy, -⟩ := nI_ex (x := y) (n := 6) (by simp only [le_i, Int32.reduceToInt] at *; omega) (by simp only [le_i, Int32.reduceToInt] at *; omega)
        subst hy
        obtain ⟨b0, hb0, hy, -⟩ := nI_ex (x := z) (n := 6) (by simp only [le_i, Int32.reduceToInt] at *; omega) (by simp only [le_i, Int32.reduceToInt] at *; omega)
        subst hy
        simp only [le_i, Int32.reduceToInt, nI_toInt (n := a0) (by omega), nI_toInt (n := b0) (by omega)] at q1 q2
        obtain ⟨a, rfl⟩ : ∃ a, a0 = a + 1 := ⟨a0 - 1, by omega⟩
        obtain ⟨b, rfl⟩ : ∃ b, b0 = b + 1 := ⟨b0 - 1, by omega⟩
        refine j_aload_n dX12_move_55 rfl ?_
        refine j_callV0 dX12_move_56 vl_X12_340 (e_step hf) hm.1 rfl (by decide) (by omega) (by omega) (Nat.le_of_ble_eq_true rfl) (fun v_56 u_56 p_56 => ?_)
        obtain ⟨rfl, hm1, y0, -⟩ := p_56
        dsimp only [rs]
        refine j_istore dX12_move_59 (by decide) ?_
        dsimp only [st1, st2, unL, List.set]
        refine j_iload_n dX12_move_61 rfl ?_
        refine j_iload_n dX12_move_62 rfl ?_
        refine j_icmp_le 70 dX12_move_63 (by decide) (fun c_63 => ?_) (fun c_63 => ?_)
        · have hab : b ≤ a := by rw [nI_leI (by omega) (by omega)] at c_63; omega
          rw [if_neg (show ¬ nI (a + 1) < nI (b + 1) by rw [nI_ltI (by omega) (by omega)]; omega), show (nI (a + 1) - nI (b + 1)) + 1 = (nI (b + 1) - nI (a + 1)) * (-1) + 1 by rw [Int32.mul_neg, Int32.mul_one, Int32.neg_sub]]
          refine j_iconst (v := -1) dX12_move_70 (by decide) ?_
          refine j_istore dX12_move_71 (by decide) ?_
          dsimp only [st1, st2, unL, List.set]
          refine j_iload_n dX12_move_73 rfl ?_
          refine j_istore dX12_move_74 (by decide) ?_
          dsimp only [st1, st2, unL, List.set]
          first | exact l_move1up (a := a) (b := b) (by omega) (by omega) 7 a _ (by omega) ⟨by omega, by omega, hm1, y0⟩ | exact l_move1dn (a := a) (b := b) (by omega) (by omega) 7 a _ (by omega) ⟨by omega, by omega, hm1, y0⟩
        · have hab : a < b := by rw [nI_leI (by omega) (by omega)] at c_63; omega
          rw [if_pos (show nI (a + 1) < nI (b + 1) by rw [nI_ltI (by omega) (by omega)]; omega), show (nI (b + 1) - nI (a + 1)) + 1 = (nI (b + 1) - nI (a + 1)) * 1 + 1 by rw [Int32.mul_one]]
          refine j_iconst (v := 1) dX12_move_66 (by decide) ?_
          refine j_goto 71 dX12_move_67 (by decide) ?_
          refine j_istore dX12_move_71 (by decide) ?_
          dsimp only [st1, st2, unL, List.set]
          refine j_iload_n dX12_move_73 rfl ?_
          refine j_istore dX12_move_74 (by decide) ?_
          dsimp only [st1, st2, unL, List.set]
          first | exact l_move1up (a := a) (b := b) (by omega) (by omega) 7 a _ (by omega) ⟨by omega, by omega, hm1, y0⟩ | exact l_move1dn (a := a) (b := b) (by omega) (by omega) 7 a _ (by omega) ⟨by omega, by omega, hm1, y0⟩
      · refine j_aload_n dX12_move_49 rfl ?_
        refine j_iconst (v := 2) dX12_move_50 (by decide) ?_
        refine j_callV1 dX12_move_51 vl_X12_237 (c_throwing 2 hm) hm.1 rfl (by decide) (by omega) (by omega) (Nat.le_of_ble_eq_true rfl) (fun v_51 u_51 p_51 => ?_)
        obtain ⟨e_, rfl⟩ := p_51
        rw [e_]
        clear e_
        dsimp only [rs]
        have q : ¬ (1 ≤ y ∧ y ≤ 6 ∧ 1 ≤ z ∧ z ≤ 6) := fun w => by first | exact b2_0.mp (Classical.not_not.mp c_46) ⟨w.2.2.1, w.2.2.2⟩ | exact b2_0.mp c_36 ⟨w.1, w.2.1⟩
        exact j_ireturn dX12_move_54 rfl rfl ⟨by rw [mvR, if_neg q], hm, by rw [hI_pI, if_pos ⟨rfl, rfl⟩, if_neg q]⟩
  · exact absurd (by decide) c_11

set_option maxRecDepth 20000 in
theorem e_insertX {h : Hp} {g : Nat → Nat} (x : Int32) (y : Int32) (hf : FM h g) (hx : ¬ (0 ≤ x ∧ x ≤ 1)) : Con mX12_insert 4 0 0 [vr (some (g 0)), vi x, vi y] h (an g 0 1) := by
  obtain ⟨hm, z0, z1, z2, z3, z4, z5, z9, z10, z11, z64⟩ := id hf
  refine con_of rfl (Nat.le_of_ble_eq_true rfl) (by decide) ?_
  show J mX12_insert 4 0 0 _ 0 [some (vr (some (g 0))), some (vi x), some (vi y), none, none, none] [] h
  refine j_aload_n dX12_insert_0 rfl ?_
  refine j_iconst (v := 0) dX12_insert_1 (by decide) ?_
  refine j_putI dX12_insert_2 fl_X12_202 rfl rfl rfl hm.1 ?_
  rw [pI_same (fmI z0 0 (v := 0) rfl)]
  refine j_iload_n dX12_insert_5 rfl ?_
  refine j_iconst (v := 0) dX12_insert_6 (by decide) ?_
  refine j_iconst (v := 1) dX12_insert_7 (by decide) ?_
  refine j_callS3 dX12_insert_8 sl_X12_220 (c_in _ _ _) rfl (by decide) (by omega) (by omega) (Nat.le_of_ble_eq_true rfl) (fun v_8 u_8 p_8 => ?_)
  obtain ⟨e_8, rfl⟩ := p_8
  rw [e_8]
  clear e_8
  dsimp only [rs]
  refine j_if_ne 20 dX12_insert_11 (by decide) (fun c_11 => ?_) (fun c_11 => ?_)
  · exact absurd (b2_n.mp c_11) hx
  · refine j_aload_n dX12_insert_14 rfl ?_
    refine j_iconst (v := 1) dX12_insert_15 (by decide) ?_
    refine j_callV1 dX12_insert_16 vl_X12_237 (c_throwing 1 hm) hm.1 rfl (by decide) (by omega) (by omega) (Nat.le_of_ble_eq_true rfl) (fun v_16 u_16 p_16 => ?_)
    obtain ⟨e_, rfl⟩ := p_16
    rw [e_]
    clear e_
    dsimp only [rs]
    exact j_ireturn dX12_insert_19 rfl rfl (⟨rfl, hm, by rw [hI_pI, if_pos ⟨rfl, rfl⟩]⟩)

set_option maxRecDepth 20000 in
theorem e_removeX {h : Hp} {g : Nat → Nat} (x : Int32) (y : Int32) (hf : FM h g) (hx : ¬ (0 ≤ x ∧ x ≤ 1)) : Con mX12_remove 4 0 0 [vr (some (g 0)), vi x, vi y] h (an g 0 1) := by
  obtain ⟨hm, z0, z1, z2, z3, z4, z5, z9, z10, z11, z64⟩ := id hf
  refine con_of rfl (Nat.le_of_ble_eq_true rfl) (by decide) ?_
  show J mX12_remove 4 0 0 _ 0 [some (vr (some (g 0))), some (vi x), some (vi y), none, none] [] h
  refine j_aload_n dX12_remove_0 rfl ?_
  refine j_iconst (v := 0) dX12_remove_1 (by decide) ?_
  refine j_putI dX12_remove_2 fl_X12_202 rfl rfl rfl hm.1 ?_
  rw [pI_same (fmI z0 0 (v := 0) rfl)]
  refine j_iload_n dX12_remove_5 rfl ?_
  refine j_iconst (v := 0) dX12_remove_6 (by decide) ?_
  refine j_iconst (v := 1) dX12_remove_7 (by decide) ?_
  refine j_callS3 dX12_remove_8 sl_X12_220 (c_in _ _ _) rfl (by decide) (by omega) (by omega) (Nat.le_of_ble_eq_true rfl) (fun v_8 u_8 p_8 => ?_)
  obtain ⟨e_8, rfl⟩ := p_8
  rw [e_8]
  clear e_8
  dsimp only [rs]
  refine j_if_ne 20 dX12_remove_11 (by decide) (fun c_11 => ?_) (fun c_11 => ?_)
  · exact absurd (b2_n.mp c_11) hx
  · refine j_aload_n dX12_remove_14 rfl ?_
    refine j_iconst (v := 1) dX12_remove_15 (by decide) ?_
    refine j_callV1 dX12_remove_16 vl_X12_237 (c_throwing 1 hm) hm.1 rfl (by decide) (by omega) (by omega) (Nat.le_of_ble_eq_true rfl) (fun v_16 u_16 p_16 => ?_)
    obtain ⟨e_, rfl⟩ := p_16
    rw [e_]
    clear e_
    dsimp only [rs]
    exact j_ireturn dX12_remove_19 rfl rfl (⟨rfl, hm, by rw [hI_pI, if_pos ⟨rfl, rfl⟩]⟩)

set_option maxRecDepth 20000 in
theorem e_moveX {h : Hp} {g : Nat → Nat} (x : Int32) (y z : Int32) (hf : FM h g) (hx : ¬ (0 ≤ x ∧ x ≤ 1)) : Con mX12_move 4 0 0 [vr (some (g 0)), vi x, vi y, vi z] h (an g 0 1) := by
  obtain ⟨hm, z0, z1, z2, z3, z4, z5, z9, z10, z11, z64⟩ := id hf
  refine con_of rfl (Nat.le_of_ble_eq_true rfl) (by decide) ?_
  show J mX12_move 4 0 0 _ 0 [some (vr (some (g 0))), some (vi x), some (vi y), some (vi z), none, none, none, none] [] h
  refine j_aload_n dX12_move_0 rfl ?_
  refine j_iconst (v := 0) dX12_move_1 (by decide) ?_
  refine j_putI dX12_move_2 fl_X12_202 rfl rfl rfl hm.1 ?_
  rw [pI_same (fmI z0 0 (v := 0) rfl)]
  refine j_iload_n dX12_move_5 rfl ?_
  refine j_iconst (v := 0) dX12_move_6 (by decide) ?_
  refine j_iconst (v := 1) dX12_move_7 (by decide) ?_
  refine j_callS3 dX12_move_8 sl_X12_220 (c_in _ _ _) rfl (by decide) (by omega) (by omega) (Nat.le_of_ble_eq_true rfl) (fun v_8 u_8 p_8 => ?_)
  obtain ⟨e_8, rfl⟩ := p_8
  rw [e_8]
  clear e_8
  dsimp only [rs]
  refine j_if_ne 20 dX12_move_11 (by decide) (fun c_11 => ?_) (fun c_11 => ?_)
  · exact absurd (b2_n.mp c_11) hx
  · refine j_aload_n dX12_move_14 rfl ?_
    refine j_iconst (v := 1) dX12_move_15 (by decide) ?_
    refine j_callV1 dX12_move_16 vl_X12_237 (c_throwing 1 hm) hm.1 rfl (by decide) (by omega) (by omega) (Nat.le_of_ble_eq_true rfl) (fun v_16 u_16 p_16 => ?_)
    obtain ⟨e_, rfl⟩ := p_16
    rw [e_]
    clear e_
    dsimp only [rs]
    exact j_ireturn dX12_move_19 rfl rfl (⟨rfl, hm, by rw [hI_pI, if_pos ⟨rfl, rfl⟩]⟩)

set_option maxRecDepth 20000 in
theorem l_eraseC {h : Hp} {g : Nat → Nat} {a b c d i : Nat} (hm : MW h g) (y5 : hI h (g 5) = fun _ => 0) (hc : c < 8) (hd : d < 6) (hi : i < 8) (fin : J mX12_erase 4 0 0 (nx (an g 0 0)) 116 [some (vr (some (g 0))), some (vi (nI (a + 1))), some (vi (nI (b + 1))), some (vi (nI (c + 1))), some (vi (nI (d + 1))), some (vi 0), some (vi (nI (i + 1))), none] [] h) : ∀ (n : Nat) (j : Nat), 6 - j < n → j ≤ 6 → J mX12_erase 4 0 0 (nx (an g 0 0)) 71 [some (vr (some (g 0))), some (vi (nI (a + 1))), some (vi (nI (b + 1))), some (vi (nI (c + 1))), some (vi (nI (d + 1))), some (vi 0), some (vi (nI (i + 1))), some (vi (nI (j + 1)))] [] h := by
  intro n
  induction n with
  | zero => intro j hlt; omega
  | succ n ih =>
    intro j hlt hinv
    refine j_iload dX12_erase_71 rfl ?_
    refine j_iload dX12_erase_73 rfl ?_
    refine j_icmp_gt 116 dX12_erase_75 (by decide) (fun c_75 => ?_) (fun c_75 => ?_)
    · exact j_lle (by simp [lle]) fin
    · have hlt2 : j ≤ d := by rw [nI_ltI (by omega) (by omega)] at c_75; omega
      refine j_iload dX12_erase_78 rfl ?_
      refine j_aload_n dX12_erase_80 rfl ?_
      refine j_bipush (v := 40) dX12_erase_81 (by decide) ?_
      refine j_iload dX12_erase_83 rfl ?_
      refine j_iload dX12_erase_85 rfl ?_
      refine j_callV3 dX12_erase_87 vl_X12_812 (c_cellAt 40 (by decide) i j (by omega) (by omega) hm) hm.1 rfl (by decide) (by omega) (by omega) (Nat.le_of_ble_eq_true rfl) (fun v_87 u_87 p_87 => ?_)
      obtain ⟨e_87, rfl⟩ := p_87
      rw [e_87]
      clear e_87
      dsimp only [rs]
      rw [show hI h (g 5) (320 * 40 + 10 * i + j) = 0 by rw [y5]]
      refine j_if_eq 97 dX12_erase_90 (by decide) (fun c_90 => ?_) (fun c_90 => ?_)
      · refine j_iconst (v := 0) dX12_erase_97 (by decide) ?_
        refine j_iadd dX12_erase_98 ?_
        refine j_istore dX12_erase_99 (by decide) ?_
        dsimp only [st1, st2, unL, List.set]
        refine j_aload_n dX12_erase_101 rfl ?_
        refine j_iload dX12_erase_102 rfl ?_
        refine j_iload dX12_erase_104 rfl ?_
        refine j_iconst (v := 0) dX12_erase_106 (by decide) ?_
        refine j_callV3 dX12_erase_107 vl_X12_343 (c_setCell i j (by omega) (by omega) 0 hm) hm.1 rfl (by decide) (by omega) (by omega) (Nat.le_of_ble_eq_true rfl) (fun v_107 u_107 p_107 => ?_)
        obtain ⟨rfl, rfl⟩ := p_107
        dsimp only [rs]
        refine j_iinc dX12_erase_110 rfl ?_
        dsimp only [st1, st2, unL, List.set]
        refine j_goto 71 dX12_erase_113 (by decide) ?_
        rw [pI_same (show hI h (g 5) (12800 + 10 * i + j) = 0 by rw [y5])]
        refine j_lle (lv' := [some (vr (some (g 0))), some (vi (nI (a + 1))), some (vi (nI (b + 1))), some (vi (nI (c + 1))), some (vi (nI (d + 1))), some (vi 0), some (vi (nI (i + 1))), some (vi (nI (j + 1 + 1)))]) (by simp [lle, nI_1]) ?_
        exact ih (j + 1) (by omega) (by omega)
      · exact absurd rfl c_90

set_option maxRecDepth 20000 in
theorem l_eraseR {h : Hp} {g : Nat → Nat} {a b c d : Nat} (hm : MW h g) (y0 : hI h (g 0) 0 = 0) (y5 : hI h (g 5) = fun _ => 0) (hc : c < 8) (hd : d < 6) (hb : b ≤ d) : ∀ (n : Nat) (i : Nat), 8 - i < n → i ≤ 8 → J mX12_erase 4 0 0 (nx (an g 0 0)) 62 [some (vr (some (g 0))), some (vi (nI (a + 1))), some (vi (nI (b + 1))), some (vi (nI (c + 1))), some (vi (nI (d + 1))), some (vi 0), some (vi (nI (i + 1))), none] [] h := by
  intro n
  induction n with
  | zero => intro i hlt; omega
  | succ n ih =>
    intro i hlt hinv
    refine j_iload dX12_erase_62 rfl ?_
    refine j_iload_n dX12_erase_64 rfl ?_
    refine j_icmp_gt 122 dX12_erase_65 (by decide) (fun c_65 => ?_) (fun c_65 => ?_)
    · refine j_iload dX12_erase_122 rfl ?_
      exact j_ireturn dX12_erase_124 rfl rfl (⟨rfl, hm, y0⟩)
    · have hlt2 : i ≤ c := by rw [nI_ltI (by omega) (by omega)] at c_65; omega
      refine j_iload_n dX12_erase_68 rfl ?_
      refine j_istore dX12_erase_69 (by decide) ?_
      dsimp only [st1, st2, unL, List.set]
      refine l_eraseC hm y5 hc hd (by omega) ?_ 7 b (by omega) (by omega)
      refine j_iinc dX12_erase_116 rfl ?_
      dsimp only [st1, st2, unL, List.set]
      refine j_goto 62 dX12_erase_119 (by decide) ?_
      refine j_lle (lv' := [some (vr (some (g 0))), some (vi (nI (a + 1))), some (vi (nI (b + 1))), some (vi (nI (c + 1))), some (vi (nI (d + 1))), some (vi 0), some (vi (nI (i + 1 + 1))), none]) (by simp [lle, nI_1]) ?_
      exact ih (i + 1) (by omega) (by omega)

def erT (x y z w : Int32) : Int32 := if inSh 8 6 x y ∧ inSh 8 6 z w then (if z < x ∨ w < y then 2 else 0) else 1
set_option maxRecDepth 20000 in
theorem e_erase {h : Hp} {g : Nat → Nat} (x y z w : Int32) (hf : FM h g) : Con mX12_erase 4 0 0 [vr (some (g 0)), vi x, vi y, vi z, vi w] h (an g 0 (erT x y z w)) := by
  obtain ⟨hm, z0, z1, z2, z3, z4, z5, z9, z10, z11, z64⟩ := id hf
  refine con_of rfl (Nat.le_of_ble_eq_true rfl) (by decide) ?_
  show J mX12_erase 4 0 0 _ 0 [some (vr (some (g 0))), some (vi x), some (vi y), some (vi z), some (vi w), none, none, none] [] h
  refine j_aload_n dX12_erase_0 rfl ?_
  refine j_iconst (v := 0) dX12_erase_1 (by decide) ?_
  refine j_putI dX12_erase_2 fl_X12_202 rfl rfl rfl hm.1 ?_
  rw [pI_same (fmI z0 0 (v := 0) rfl)]
  refine j_aload_n dX12_erase_5 rfl ?_
  refine j_bipush (v := 40) dX12_erase_6 (by decide) ?_
  refine j_iload_n dX12_erase_8 rfl ?_
  refine j_iload_n dX12_erase_9 rfl ?_
  refine j_callV3 dX12_erase_10 vl_X12_321 (c_isCell12 40 (by decide) (nr := 8) (nc := 6) _ _ hm (by rw [z1]; rfl) (by rw [z2]; rfl) (by decide) (by decide)) hm.1 rfl (by decide) (by omega) (by omega) (Nat.le_of_ble_eq_true rfl) (fun v_10 u_10 p_10 => ?_)
  obtain ⟨e_10, rfl⟩ := p_10
  rw [e_10]
  clear e_10
  dsimp only [rs]
  refine j_if_eq 28 dX12_erase_13 (by decide) (fun c_13 => ?_) (fun c_13 => ?_)
  · refine j_aload_n dX12_erase_28 rfl ?_
    refine j_iconst (v := 1) dX12_erase_29 (by decide) ?_
    refine j_callV1 dX12_erase_30 vl_X12_237 (c_throwing 1 hm) hm.1 rfl (by decide) (by omega) (by omega) (Nat.le_of_ble_eq_true rfl) (fun v_30 u_30 p_30 => ?_)
    obtain ⟨e_, rfl⟩ := p_30
    rw [e_]
    clear e_
    dsimp only [rs]
    exact j_ireturn dX12_erase_33 rfl rfl ⟨rfl, hm, by rw [hI_pI, if_pos ⟨rfl, rfl⟩, erT, if_neg (fun q => by first | exact b2_0.mp (Classical.not_not.mp c_25) q.2 | exact b2_0.mp c_13 q.1)]⟩
  · refine j_aload_n dX12_erase_16 rfl ?_
    refine j_bipush (v := 40) dX12_erase_17 (by decide) ?_
    refine j_iload_n dX12_erase_19 rfl ?_
    refine j_iload dX12_erase_20 rfl ?_
    refine j_callV3 dX12_erase_22 vl_X12_321 (c_isCell12 40 (by decide) (nr := 8) (nc := 6) _ _ hm (by rw [z1]; rfl) (by rw [z2]; rfl) (by decide) (by decide)) hm.1 rfl (by decide) (by omega) (by omega) (Nat.le_of_ble_eq_true rfl) (fun v_22 u_22 p_22 => ?_)
    obtain ⟨e_22, rfl⟩ := p_22
    rw [e_22]
    clear e_22
    dsimp only [rs]
    refine j_if_ne 34 dX12_erase_25 (by decide) (fun c_25 => ?_) (fun c_25 => ?_)
    · have q1 := b2_nn.mp c_13
      have q2 := b2_n.mp c_25
      refine j_iload_n dX12_erase_34 rfl ?_
      refine j_iload_n dX12_erase_35 rfl ?_
      refine j_icmp_lt 45 dX12_erase_36 (by decide) (fun c_36 => ?_) (fun c_36 => ?_)
      · refine j_aload_n dX12_erase_45 rfl ?_
        refine j_iconst (v := 2) dX12_erase_46 (by decide) ?_
        refine j_callV1 dX12_erase_47 vl_X12_237 (c_throwing 2 hm) hm.1 rfl (by decide) (by omega) (by omega) (Nat.le_of_ble_eq_true rfl) (fun v_47 u_47 p_47 => ?_)
        obtain ⟨e_, rfl⟩ := p_47
        rw [e_]
        clear e_
        dsimp only [rs]
        exact j_ireturn dX12_erase_50 rfl rfl ⟨rfl, hm, by rw [hI_pI, if_pos ⟨rfl, rfl⟩, erT, if_pos ⟨q1, q2⟩, if_pos (by simp only [le_i, lt_i] at *; omega)]⟩
      · refine j_iload dX12_erase_39 rfl ?_
        refine j_iload_n dX12_erase_41 rfl ?_
        refine j_icmp_ge 51 dX12_erase_42 (by decide) (fun c_42 => ?_) (fun c_42 => ?_)
        · rw [erT, if_pos ⟨q1, q2⟩, if_neg (by simp only [le_i, lt_i] at *; omega)]
          obtain ⟨a0, ha0, hv, -⟩ := nI_ex (x := x) (n := 8) (by simp only [inSh] at q1 q2; omega) (by simp only [inSh] at q1 q2; omega)
          subst hv
          obtain ⟨a, rfl⟩ : ∃ a, a0 = a + 1 := ⟨a0 - 1, by simp only [inSh, nI_toInt (n := a0) (by omega)] at q1 q2; omega⟩
          obtain ⟨b0, hb0, hv, -⟩ := nI_ex (x := y) (n := 6) (by simp only [inSh] at q1 q2; omega) (by simp only [inSh] at q1 q2; omega)
          subst hv
          obtain ⟨b, rfl⟩ : ∃ a, b0 = a + 1 := ⟨b0 - 1, by simp only [inSh, nI_toInt (n := b0) (by omega)] at q1 q2; omega⟩
          obtain ⟨c0, hc0, hv, -⟩ := nI_ex (x := z) (n := 8) (by simp only [inSh] at q1 q2; omega) (by simp only [inSh] at q1 q2; omega)
          subst hv
          obtain ⟨c, rfl⟩ : ∃ a, c0 = a + 1 := ⟨c0 - 1, by simp only [inSh, nI_toInt (n := c0) (by omega)] at q1 q2; omega⟩
          obtain ⟨d0, hd0, hv, -⟩ := nI_ex (x := w) (n := 6) (by simp only [inSh] at q1 q2; omega) (by simp only [inSh] at q1 q2; omega)
          subst hv
          obtain ⟨d, rfl⟩ : ∃ a, d0 = a + 1 := ⟨d0 - 1, by simp only [inSh, nI_toInt (n := d0) (by omega)] at q1 q2; omega⟩
          simp only [inSh, nI_toInt (n := a + 1) (by omega), nI_toInt (n := b + 1) (by omega), nI_toInt (n := c + 1) (by omega), nI_toInt (n := d + 1) (by omega)] at q1 q2
          have hab : b ≤ d := by rw [nI_leI (by omega) (by omega)] at c_42; omega
          refine j_aload_n dX12_erase_51 rfl ?_
          refine j_callV0 dX12_erase_52 vl_X12_340 (e_step hf) hm.1 rfl (by decide) (by omega) (by omega) (Nat.le_of_ble_eq_true rfl) (fun v_52 u_52 p_52 => ?_)
          obtain ⟨rfl, hm1, y0, -, -, y5, -⟩ := p_52
          dsimp only [rs]
          refine j_pop dX12_erase_55 rfl ?_
          refine j_iconst (v := 0) dX12_erase_56 (by decide) ?_
          refine j_istore dX12_erase_57 (by decide) ?_
          dsimp only [st1, st2, unL, List.set]
          refine j_iload_n dX12_erase_59 rfl ?_
          refine j_istore dX12_erase_60 (by decide) ?_
          dsimp only [st1, st2, unL, List.set]
          refine j_lle (lv' := [some (vr (some (g 0))), some (vi (nI (a + 1))), some (vi (nI (b + 1))), some (vi (nI (c + 1))), some (vi (nI (d + 1))), some (vi 0), some (vi (nI (a + 1))), none]) (by simp [lle]) ?_
          exact l_eraseR hm1 y0 y5 (by omega) (by omega) hab 9 a (by omega) (by omega)
        · refine j_aload_n dX12_erase_45 rfl ?_
          refine j_iconst (v := 2) dX12_erase_46 (by decide) ?_
          refine j_callV1 dX12_erase_47 vl_X12_237 (c_throwing 2 hm) hm.1 rfl (by decide) (by omega) (by omega) (Nat.le_of_ble_eq_true rfl) (fun v_47 u_47 p_47 => ?_)
          obtain ⟨e_, rfl⟩ := p_47
          rw [e_]
          clear e_
          dsimp only [rs]
          exact j_ireturn dX12_erase_50 rfl rfl ⟨rfl, hm, by rw [hI_pI, if_pos ⟨rfl, rfl⟩, erT, if_pos ⟨q1, q2⟩, if_pos (by simp only [le_i, lt_i] at *; omega)]⟩
    · refine j_aload_n dX12_erase_28 rfl ?_
      refine j_iconst (v := 1) dX12_erase_29 (by decide) ?_
      refine j_callV1 dX12_erase_30 vl_X12_237 (c_throwing 1 hm) hm.1 rfl (by decide) (by omega) (by omega) (Nat.le_of_ble_eq_true rfl) (fun v_30 u_30 p_30 => ?_)
      obtain ⟨e_, rfl⟩ := p_30
      rw [e_]
      clear e_
      dsimp only [rs]
      exact j_ireturn dX12_erase_33 rfl rfl ⟨rfl, hm, by rw [hI_pI, if_pos ⟨rfl, rfl⟩, erT, if_neg (fun q => by first | exact b2_0.mp (Classical.not_not.mp c_25) q.2 | exact b2_0.mp c_13 q.1)]⟩

