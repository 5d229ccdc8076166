/-! ===== in general: commit, branch, drop of the reference ===== -/
def cmM (h : Hp) (g : Nat → Nat) (v k : Nat) : Hp := pI (pI (pI (pI (pI (pI (cps (m0 h g) g 40 v) (g 9) v (hI h (g 11) k)) (g 10) v (hI h (g 0) 13)) (g 0) 13 (-1)) (g 0) 98 0) (g 11) k (nI v)) (g 0) 8 (nI (v + 1))
set_option maxRecDepth 20000 in
theorem f_commit {h : Hp} {g : Nat → Nat} {c v k : Nat} (hm : MW h g) (h98 : hI h (g 0) 98 = nI c) (hc : c ≤ 370) (hz : cntZ (hI h (g 97)) c = 0) (h8 : hI h (g 0) 8 = nI v) (hv : v < 40) (h12 : hI h (g 0) 12 = nI k) (hk : k < 6) : Con mX12_commit 2 0 0 [vr (some (g 0))] h (fun r u => r = some (vi (nI v)) ∧ u = cmM h g v k) := by
  refine con_of rfl (Nat.le_of_ble_eq_true rfl) (by decide) ?_
  show J mX12_commit 2 0 0 _ 0 [some (vr (some (g 0))), none] [] h
  refine j_aload_n dX12_commit_0 rfl ?_
  refine j_iconst (v := 0) dX12_commit_1 (by decide) ?_
  refine j_putI dX12_commit_2 fl_X12_202 rfl rfl rfl hm.1 ?_
  rw [show pI h (g 0) 0 0 = m0 h g from rfl]
  refine j_aload_n dX12_commit_5 rfl ?_
  refine j_callV0 dX12_commit_6 vl_X12_871 (f_unsettled (h := m0 h g) (n := c) hm (by rw [m0_i (by decide)]; exact h98) hc) hm.1 rfl (by decide) (by omega) (by omega) (Nat.le_of_ble_eq_true rfl) (fun v_6 u_6 p_6 => ?_)
  obtain ⟨rfl, rfl⟩ := p_6
  rw [m0_a hm (k := 97) rfl rfl]
  rw [hz]
  dsimp only [rs]
  refine j_if_le 18 dX12_commit_9 (by decide) (fun c_9 => ?_) (fun c_9 => ?_)
  · refine j_aload_n dX12_commit_18 rfl ?_
    refine j_getI dX12_commit_19 fl_X12_33 rfl hm.1 ?_
    rw [m0_i (by decide), h8]
    refine j_bipush (v := 40) dX12_commit_22 (by decide) ?_
    refine j_icmp_ne 33 dX12_commit_24 (by decide) (fun c_24 => ?_) (fun c_24 => ?_)
    · refine j_aload_n dX12_commit_33 rfl ?_
      refine j_getI dX12_commit_34 fl_X12_33 rfl hm.1 ?_
      rw [m0_i (by decide), h8]
      refine j_istore_n dX12_commit_37 (by decide) ?_
      dsimp only [st1, st2, unL, List.set]
      refine j_aload_n dX12_commit_38 rfl ?_
      refine j_bipush (v := 40) dX12_commit_39 (by decide) ?_
      refine j_iload_n dX12_commit_41 rfl ?_
      refine j_callV2 dX12_commit_42 vl_X12_198 (c_copySheet (h := m0 h g) (s := 40) (t := v) hm (by decide) (by omega)) hm.1 rfl (by decide) (by omega) (by omega) (Nat.le_of_ble_eq_true rfl) (fun v_42 u_42 p_42 => ?_)
      obtain ⟨rfl, rfl⟩ := p_42
      rw [if_neg (show ¬ v = 40 by omega)]
      dsimp only [rs]
      refine j_aload_n dX12_commit_45 rfl ?_
      refine j_getR dX12_commit_46 fl_X12_36 rfl hm.1 (mO hm rfl) ?_
      refine j_iload_n dX12_commit_49 rfl ?_
      refine j_aload_n dX12_commit_50 rfl ?_
      refine j_callV0 dX12_commit_51 vl_X12_860 (c_head12 (h := cps (m0 h g) g 40 v) k (by rw [cps_0 hm (j := 0) rfl (Or.inl rfl), m0_i (by decide)]; exact h12) hk hm) hm.1 rfl (by decide) (by omega) (by omega) (Nat.le_of_ble_eq_true rfl) (fun v_51 u_51 p_51 => ?_)
      obtain ⟨rfl, rfl⟩ := p_51
      rw [cps_0 hm (j := 11) rfl (Or.inr (by decide)), m0_a hm (k := 11) rfl rfl]
      dsimp only [rs]
      refine j_iast v dX12_commit_54 (mK hm rfl) rfl (Nat.lt_of_lt_of_eq (by omega) (mN hm (k := 9) (n := 40) rfl rfl).symm) (Nat.lt_of_le_of_lt (Nat.le_of_eq (mN hm (k := 9) (n := 40) rfl rfl)) (by decide)) ?_
      refine j_aload_n dX12_commit_55 rfl ?_
      refine j_getR dX12_commit_56 fl_X12_39 rfl hm.1 (mO hm rfl) ?_
      refine j_iload_n dX12_commit_59 rfl ?_
      refine j_aload_n dX12_commit_60 rfl ?_
      refine j_getI dX12_commit_61 fl_X12_45 rfl hm.1 ?_
      rw [show hI (pI (cps (m0 h g) g 40 v) (g 9) v (hI h (g 11) k)) (g 0) 13 = hI h (g 0) 13 by rw [hI_pI, if_neg (fun z => mNe hm (i := 0) (j := 9) rfl rfl rfl z.1), cps_0 hm (j := 0) rfl (Or.inl rfl), m0_i (by decide)]]
      refine j_iast v dX12_commit_64 (mK hm rfl) rfl (Nat.lt_of_lt_of_eq (by omega) (mN hm (k := 10) (n := 40) rfl rfl).symm) (Nat.lt_of_le_of_lt (Nat.le_of_eq (mN hm (k := 10) (n := 40) rfl rfl)) (by decide)) ?_
      refine j_aload_n dX12_commit_65 rfl ?_
      refine j_iconst (v := -1) dX12_commit_66 (by decide) ?_
      refine j_putI dX12_commit_67 fl_X12_45 rfl rfl rfl hm.1 ?_
      refine j_aload_n dX12_commit_70 rfl ?_
      refine j_iconst (v := 0) dX12_commit_71 (by decide) ?_
      refine j_putI dX12_commit_72 fl_X12_868 rfl rfl rfl hm.1 ?_
      refine j_aload_n dX12_commit_75 rfl ?_
      refine j_getR dX12_commit_76 fl_X12_42 rfl hm.1 (mO hm rfl) ?_
      refine j_aload_n dX12_commit_79 rfl ?_
      refine j_getI dX12_commit_80 fl_X12_857 rfl hm.1 ?_
      rw [show hI (pI (pI (pI (pI (cps (m0 h g) g 40 v) (g 9) v (hI h (g 11) k)) (g 10) v (hI h (g 0) 13)) (g 0) 13 (-1)) (g 0) 98 0) (g 0) 12 = nI k by rw [hI_pI, if_neg (by omega), hI_pI, if_neg (by omega), hI_pI, if_neg (fun z => mNe hm (i := 0) (j := 10) rfl rfl rfl z.1), hI_pI, if_neg (fun z => mNe hm (i := 0) (j := 9) rfl rfl rfl z.1), cps_0 hm (j := 0) rfl (Or.inl rfl), m0_i (by decide)]; exact h12]
      refine j_iload_n dX12_commit_83 rfl ?_
      refine j_iast k dX12_commit_84 (mK hm rfl) rfl (Nat.lt_of_lt_of_eq (by omega) (mN hm (k := 11) (n := 6) rfl rfl).symm) (Nat.lt_of_le_of_lt (Nat.le_of_eq (mN hm (k := 11) (n := 6) rfl rfl)) (by decide)) ?_
      refine j_aload_n dX12_commit_85 rfl ?_
      refine j_dup dX12_commit_86 rfl ?_
      refine j_getI dX12_commit_87 fl_X12_33 rfl hm.1 ?_
      rw [show hI (pI (pI (pI (pI (pI (cps (m0 h g) g 40 v) (g 9) v (hI h (g 11) k)) (g 10) v (hI h (g 0) 13)) (g 0) 13 (-1)) (g 0) 98 0) (g 11) k (nI v)) (g 0) 8 = nI v by rw [hI_pI, if_neg (fun z => mNe hm (i := 0) (j := 11) rfl rfl rfl z.1), hI_pI, if_neg (by omega), hI_pI, if_neg (by omega), hI_pI, if_neg (fun z => mNe hm (i := 0) (j := 10) rfl rfl rfl z.1), hI_pI, if_neg (fun z => mNe hm (i := 0) (j := 9) rfl rfl rfl z.1), cps_0 hm (j := 0) rfl (Or.inl rfl), m0_i (by decide)]; exact h8]
      refine j_iconst (v := 1) dX12_commit_90 (by decide) ?_
      refine j_iadd dX12_commit_91 ?_
      rw [nI_1]
      refine j_putI dX12_commit_92 fl_X12_33 rfl rfl rfl hm.1 ?_
      refine j_iload_n dX12_commit_95 rfl ?_
      exact j_ireturn dX12_commit_96 rfl rfl (⟨rfl, rfl⟩)
    · exact absurd (by rw [li_40, Ne, nI_eq (by omega) (by omega)]; omega) c_24
  · exact absurd (by decide) c_9

set_option maxRecDepth 20000 in
theorem f_commit1 {h : Hp} {g : Nat → Nat} {c : Nat} (hm : MW h g) (h98 : hI h (g 0) 98 = nI c) (hc : c ≤ 370) (hz : 0 < cntZ (hI h (g 97)) c) : Con mX12_commit 2 0 0 [vr (some (g 0))] h (fun r u => r = some (vi 0) ∧ u = pI (m0 h g) (g 0) 0 1) := by
  refine con_of rfl (Nat.le_of_ble_eq_true rfl) (by decide) ?_
  show J mX12_commit 2 0 0 _ 0 [some (vr (some (g 0))), none] [] h
  refine j_aload_n dX12_commit_0 rfl ?_
  refine j_iconst (v := 0) dX12_commit_1 (by decide) ?_
  refine j_putI dX12_commit_2 fl_X12_202 rfl rfl rfl hm.1 ?_
  rw [show pI h (g 0) 0 0 = m0 h g from rfl]
  refine j_aload_n dX12_commit_5 rfl ?_
  refine j_callV0 dX12_commit_6 vl_X12_871 (f_unsettled (h := m0 h g) (n := c) hm (by rw [m0_i (by decide)]; exact h98) hc) hm.1 rfl (by decide) (by omega) (by omega) (Nat.le_of_ble_eq_true rfl) (fun v_6 u_6 p_6 => ?_)
  obtain ⟨rfl, rfl⟩ := p_6
  rw [m0_a hm (k := 97) rfl rfl]
  dsimp only [rs]
  refine j_if_le 18 dX12_commit_9 (by decide) (fun c_9 => ?_) (fun c_9 => ?_)
  · exact absurd c_9 (by rw [li_0, nI_leI (Nat.lt_of_le_of_lt (cntZ_le _ c) (by omega)) (by decide)]; omega)
  · refine j_aload_n dX12_commit_12 rfl ?_
    refine j_iconst (v := 1) dX12_commit_13 (by decide) ?_
    refine j_callV1 dX12_commit_14 vl_X12_237 (c_throwing (h := m0 h g) 1 hm) hm.1 rfl (by decide) (by omega) (by omega) (Nat.le_of_ble_eq_true rfl) (fun v_14 u_14 p_14 => ?_)
    obtain ⟨rfl, rfl⟩ := p_14
    dsimp only [rs]
    exact j_ireturn dX12_commit_17 rfl rfl (⟨rfl, rfl⟩)

set_option maxRecDepth 20000 in
theorem f_commit2 {h : Hp} {g : Nat → Nat} {c : Nat} (hm : MW h g) (h98 : hI h (g 0) 98 = nI c) (hc : c ≤ 370) (hz : cntZ (hI h (g 97)) c = 0) (h8 : hI h (g 0) 8 = 40) : Con mX12_commit 2 0 0 [vr (some (g 0))] h (fun r u => r = some (vi 0) ∧ u = pI (m0 h g) (g 0) 0 2) := by
  refine con_of rfl (Nat.le_of_ble_eq_true rfl) (by decide) ?_
  show J mX12_commit 2 0 0 _ 0 [some (vr (some (g 0))), none] [] h
  refine j_aload_n dX12_commit_0 rfl ?_
  refine j_iconst (v := 0) dX12_commit_1 (by decide) ?_
  refine j_putI dX12_commit_2 fl_X12_202 rfl rfl rfl hm.1 ?_
  rw [show pI h (g 0) 0 0 = m0 h g from rfl]
  refine j_aload_n dX12_commit_5 rfl ?_
  refine j_callV0 dX12_commit_6 vl_X12_871 (f_unsettled (h := m0 h g) (n := c) hm (by rw [m0_i (by decide)]; exact h98) hc) hm.1 rfl (by decide) (by omega) (by omega) (Nat.le_of_ble_eq_true rfl) (fun v_6 u_6 p_6 => ?_)
  obtain ⟨rfl, rfl⟩ := p_6
  rw [m0_a hm (k := 97) rfl rfl]
  rw [hz]
  dsimp only [rs]
  refine j_if_le 18 dX12_commit_9 (by decide) (fun c_9 => ?_) (fun c_9 => ?_)
  · refine j_aload_n dX12_commit_18 rfl ?_
    refine j_getI dX12_commit_19 fl_X12_33 rfl hm.1 ?_
    rw [m0_i (by decide), h8]
    refine j_bipush (v := 40) dX12_commit_22 (by decide) ?_
    refine j_icmp_ne 33 dX12_commit_24 (by decide) (fun c_24 => ?_) (fun c_24 => ?_)
    · exact absurd c_24 (fun e => e rfl)
    · refine j_aload_n dX12_commit_27 rfl ?_
      refine j_iconst (v := 2) dX12_commit_28 (by decide) ?_
      refine j_callV1 dX12_commit_29 vl_X12_237 (c_throwing (h := m0 h g) 2 hm) hm.1 rfl (by decide) (by omega) (by omega) (Nat.le_of_ble_eq_true rfl) (fun v_29 u_29 p_29 => ?_)
      obtain ⟨rfl, rfl⟩ := p_29
      dsimp only [rs]
      exact j_ireturn dX12_commit_32 rfl rfl (⟨rfl, rfl⟩)
  · exact absurd (by decide) c_9

set_option maxRecDepth 20000 in
theorem f_branch1 {h : Hp} {g : Nat → Nat} (x : Int32) (hm : MW h g) (hx : ¬ (0 ≤ x ∧ x ≤ 5)) : Con mX12_branch 2 0 0 [vr (some (g 0)), vi x] h (fun r u => r = some (vi 0) ∧ u = pI (m0 h g) (g 0) 0 1) := by
  refine con_of rfl (Nat.le_of_ble_eq_true rfl) (by decide) ?_
  show J mX12_branch 2 0 0 _ 0 [some (vr (some (g 0))), some (vi x)] [] h
  refine j_aload_n dX12_branch_0 rfl ?_
  refine j_iconst (v := 0) dX12_branch_1 (by decide) ?_
  refine j_putI dX12_branch_2 fl_X12_202 rfl rfl rfl hm.1 ?_
  rw [show pI h (g 0) 0 0 = m0 h g from rfl]
  refine j_iload_n dX12_branch_5 rfl ?_
  refine j_iconst (v := 0) dX12_branch_6 (by decide) ?_
  refine j_iconst (v := 5) dX12_branch_7 (by decide) ?_
  refine j_callS3 dX12_branch_8 sl_X12_220 (c_in _ _ _) rfl (by decide) (by omega) (by omega) (Nat.le_of_ble_eq_true rfl) (fun v_8 u_8 p_8 => ?_)
  obtain ⟨e_8, rfl⟩ := p_8
  rw [e_8]
  clear e_8
  dsimp only [rs]
  refine j_if_ne 20 dX12_branch_11 (by decide) (fun c_11 => ?_) (fun c_11 => ?_)
  · exact absurd c_11 (fun e => e (b2f hx))
  · refine j_aload_n dX12_branch_14 rfl ?_
    refine j_iconst (v := 1) dX12_branch_15 (by decide) ?_
    refine j_callV1 dX12_branch_16 vl_X12_237 (c_throwing (h := m0 h g) 1 hm) hm.1 rfl (by decide) (by omega) (by omega) (Nat.le_of_ble_eq_true rfl) (fun v_16 u_16 p_16 => ?_)
    obtain ⟨rfl, rfl⟩ := p_16
    dsimp only [rs]
    exact j_ireturn dX12_branch_19 rfl rfl (⟨rfl, rfl⟩)

set_option maxRecDepth 20000 in
theorem f_branch2 {h : Hp} {g : Nat → Nat} {k : Nat} (hm : MW h g) (hk : k < 6) (hx : ¬ hI h (g 11) k < 0) : Con mX12_branch 2 0 0 [vr (some (g 0)), vi (nI k)] h (fun r u => r = some (vi 0) ∧ u = pI (m0 h g) (g 0) 0 2) := by
  refine con_of rfl (Nat.le_of_ble_eq_true rfl) (by decide) ?_
  show J mX12_branch 2 0 0 _ 0 [some (vr (some (g 0))), some (vi (nI k))] [] h
  refine j_aload_n dX12_branch_0 rfl ?_
  refine j_iconst (v := 0) dX12_branch_1 (by decide) ?_
  refine j_putI dX12_branch_2 fl_X12_202 rfl rfl rfl hm.1 ?_
  rw [show pI h (g 0) 0 0 = m0 h g from rfl]
  refine j_iload_n dX12_branch_5 rfl ?_
  refine j_iconst (v := 0) dX12_branch_6 (by decide) ?_
  refine j_iconst (v := 5) dX12_branch_7 (by decide) ?_
  refine j_callS3 dX12_branch_8 sl_X12_220 (c_in _ _ _) rfl (by decide) (by omega) (by omega) (Nat.le_of_ble_eq_true rfl) (fun v_8 u_8 p_8 => ?_)
  obtain ⟨e_8, rfl⟩ := p_8
  rw [e_8]
  clear e_8
  dsimp only [rs]
  refine j_if_ne 20 dX12_branch_11 (by decide) (fun c_11 => ?_) (fun c_11 => ?_)
  · refine j_aload_n dX12_branch_20 rfl ?_
    refine j_getR dX12_branch_21 fl_X12_42 rfl hm.1 (mO hm rfl) ?_
    refine j_iload_n dX12_branch_24 rfl ?_
    refine j_iald k dX12_branch_25 (mK hm rfl) rfl (Nat.lt_of_lt_of_eq (by omega) (mN hm (k := 11) (n := 6) rfl rfl).symm) (Nat.lt_of_le_of_lt (Nat.le_of_eq (mN hm (k := 11) (n := 6) rfl rfl)) (by decide)) ?_
    rw [m0_a hm (k := 11) rfl rfl]
    refine j_if_lt 35 dX12_branch_26 (by decide) (fun c_26 => ?_) (fun c_26 => ?_)
    · exact absurd c_26 hx
    · refine j_aload_n dX12_branch_29 rfl ?_
      refine j_iconst (v := 2) dX12_branch_30 (by decide) ?_
      refine j_callV1 dX12_branch_31 vl_X12_237 (c_throwing (h := m0 h g) 2 hm) hm.1 rfl (by decide) (by omega) (by omega) (Nat.le_of_ble_eq_true rfl) (fun v_31 u_31 p_31 => ?_)
      obtain ⟨rfl, rfl⟩ := p_31
      dsimp only [rs]
      exact j_ireturn dX12_branch_34 rfl rfl (⟨rfl, rfl⟩)
  · exact absurd (by rw [b2_n]; exact ⟨nI_pos' (by omega), by rw [li_5, nI_leI (by omega) (by decide)]; omega⟩) c_11

def brgM (h : Hp) (g : Nat → Nat) (k j : Nat) : Hp := pI (m0 h g) (g 11) k (hI h (g 11) j)
set_option maxRecDepth 20000 in
theorem f_branch {h : Hp} {g : Nat → Nat} {k j : Nat} (hm : MW h g) (hk : k < 6) (hx : hI h (g 11) k < 0) (h12 : hI h (g 0) 12 = nI j) (hj : j < 6) (hkj : k ≠ j) : Con mX12_branch 2 0 0 [vr (some (g 0)), vi (nI k)] h (fun r u => r = some (vi (hI h (g 11) j)) ∧ u = brgM h g k j) := by
  refine con_of rfl (Nat.le_of_ble_eq_true rfl) (by decide) ?_
  show J mX12_branch 2 0 0 _ 0 [some (vr (some (g 0))), some (vi (nI k))] [] h
  refine j_aload_n dX12_branch_0 rfl ?_
  refine j_iconst (v := 0) dX12_branch_1 (by decide) ?_
  refine j_putI dX12_branch_2 fl_X12_202 rfl rfl rfl hm.1 ?_
  rw [show pI h (g 0) 0 0 = m0 h g from rfl]
  refine j_iload_n dX12_branch_5 rfl ?_
  refine j_iconst (v := 0) dX12_branch_6 (by decide) ?_
  refine j_iconst (v := 5) dX12_branch_7 (by decide) ?_
  refine j_callS3 dX12_branch_8 sl_X12_220 (c_in _ _ _) rfl (by decide) (by omega) (by omega) (Nat.le_of_ble_eq_true rfl) (fun v_8 u_8 p_8 => ?_)
  obtain ⟨e_8, rfl⟩ := p_8
  rw [e_8]
  clear e_8
  dsimp only [rs]
  refine j_if_ne 20 dX12_branch_11 (by decide) (fun c_11 => ?_) (fun c_11 => ?_)
  · refine j_aload_n dX12_branch_20 rfl ?_
    refine j_getR dX12_branch_21 fl_X12_42 rfl hm.1 (mO hm rfl) ?_
    refine j_iload_n dX12_branch_24 rfl ?_
    refine j_iald k dX12_branch_25 (mK hm rfl) rfl (Nat.lt_of_lt_of_eq (by omega) (mN hm (k := 11) (n := 6) rfl rfl).symm) (Nat.lt_of_le_of_lt (Nat.le_of_eq (mN hm (k := 11) (n := 6) rfl rfl)) (by decide)) ?_
    rw [m0_a hm (k := 11) rfl rfl]
    refine j_if_lt 35 dX12_branch_26 (by decide) (fun c_26 => ?_) (fun c_26 => ?_)
    · refine j_aload_n dX12_branch_35 rfl ?_
      refine j_getR dX12_branch_36 fl_X12_42 rfl hm.1 (mO hm rfl) ?_
      refine j_iload_n dX12_branch_39 rfl ?_
      refine j_aload_n dX12_branch_40 rfl ?_
      refine j_callV0 dX12_branch_41 vl_X12_860 (c_head12 (h := m0 h g) j (by rw [m0_i (by decide)]; exact h12) hj hm) hm.1 rfl (by decide) (by omega) (by omega) (Nat.le_of_ble_eq_true rfl) (fun v_41 u_41 p_41 => ?_)
      obtain ⟨rfl, rfl⟩ := p_41
      rw [m0_a hm (k := 11) rfl rfl]
      dsimp only [rs]
      refine j_iast k dX12_branch_44 (mK hm rfl) rfl (Nat.lt_of_lt_of_eq (by omega) (mN hm (k := 11) (n := 6) rfl rfl).symm) (Nat.lt_of_le_of_lt (Nat.le_of_eq (mN hm (k := 11) (n := 6) rfl rfl)) (by decide)) ?_
      refine j_aload_n dX12_branch_45 rfl ?_
      refine j_callV0 dX12_branch_46 vl_X12_860 (c_head12 (h := pI (m0 h g) (g 11) k (hI h (g 11) j)) j (by rw [hI_pI, if_neg (fun z => mNe hm (i := 0) (j := 11) rfl rfl rfl z.1), m0_i (by decide)]; exact h12) hj hm) hm.1 rfl (by decide) (by omega) (by omega) (Nat.le_of_ble_eq_true rfl) (fun v_46 u_46 p_46 => ?_)
      obtain ⟨rfl, rfl⟩ := p_46
      rw [show hI (pI (m0 h g) (g 11) k (hI h (g 11) j)) (g 11) j = hI h (g 11) j by rw [hI_pI, if_neg (fun z => hkj z.2.symm), m0_a hm (k := 11) rfl rfl]]
      dsimp only [rs]
      exact j_ireturn dX12_branch_49 rfl rfl (⟨rfl, rfl⟩)
    · exact absurd hx c_26
  · exact absurd (by rw [b2_n]; exact ⟨nI_pos' (by omega), by rw [li_5, nI_leI (by omega) (by decide)]; omega⟩) c_11

def bcM (h : Hp) (g : Nat → Nat) (v : Nat) : Hp := pI (pI (pI (pI (pI (cps h g v 40) (g 0) 65 0) (g 0) 13 (-1)) (g 0) 98 0) (g 0) 16 0) (g 0) 17 0
set_option maxRecDepth 20000 in
theorem f_become {h : Hp} {g : Nat → Nat} {v : Nat} (hm : MW h g) (hv : v < 122) : Con mX12_become 2 0 0 [vr (some (g 0)), vi (nI v)] h (fun r u => r = none ∧ u = bcM h g v) := by
  refine con_of rfl (Nat.le_of_ble_eq_true rfl) (by decide) ?_
  show J mX12_become 2 0 0 _ 0 [some (vr (some (g 0))), some (vi (nI v))] [] h
  refine j_aload_n dX12_become_0 rfl ?_
  refine j_iload_n dX12_become_1 rfl ?_
  refine j_bipush (v := 40) dX12_become_2 (by decide) ?_
  refine j_callV2 dX12_become_4 vl_X12_198 (c_copySheet (s := v) (t := 40) hm hv (by decide)) hm.1 rfl (by decide) (by omega) (by omega) (Nat.le_of_ble_eq_true rfl) (fun v_4 u_4 p_4 => ?_)
  obtain ⟨rfl, rfl⟩ := p_4
  rw [if_pos rfl]
  dsimp only [rs]
  refine j_aload_n dX12_become_7 rfl ?_
  refine j_iconst (v := -1) dX12_become_8 (by decide) ?_
  refine j_putI dX12_become_9 fl_X12_45 rfl rfl rfl hm.1 ?_
  refine j_aload_n dX12_become_12 rfl ?_
  refine j_iconst (v := 0) dX12_become_13 (by decide) ?_
  refine j_putI dX12_become_14 fl_X12_868 rfl rfl rfl hm.1 ?_
  refine j_aload_n dX12_become_17 rfl ?_
  refine j_callV0 dX12_become_18 vl_X12_874 (c_forget12 (h := pI (pI (pI (cps h g v 40) (g 0) 65 0) (g 0) 13 (-1)) (g 0) 98 0) hm) hm.1 rfl (by decide) (by omega) (by omega) (Nat.le_of_ble_eq_true rfl) (fun v_18 u_18 p_18 => ?_)
  obtain ⟨rfl, rfl⟩ := p_18
  dsimp only [rs]
  exact j_return dX12_become_21 rfl (⟨rfl, rfl⟩)

set_option maxRecDepth 20000 in
theorem f_drop {h : Hp} {g : Nat → Nat} {v j : Nat} (hm : MW h g) (h12 : hI h (g 0) 12 = nI j) (hj : j < 6) (hv : hI h (g 11) j = nI v) (hv4 : v < 40) : Con mX12_drop 3 0 0 [vr (some (g 0))] h (fun r u => r = some (vi (nI v)) ∧ u = bcM (m0 h g) g v) := by
  refine con_of rfl (Nat.le_of_ble_eq_true rfl) (by decide) ?_
  show J mX12_drop 3 0 0 _ 0 [some (vr (some (g 0)))] [] h
  refine j_aload_n dX12_drop_0 rfl ?_
  refine j_iconst (v := 0) dX12_drop_1 (by decide) ?_
  refine j_putI dX12_drop_2 fl_X12_202 rfl rfl rfl hm.1 ?_
  rw [show pI h (g 0) 0 0 = m0 h g from rfl]
  refine j_aload_n dX12_drop_5 rfl ?_
  refine j_aload_n dX12_drop_6 rfl ?_
  refine j_callV0 dX12_drop_7 vl_X12_860 (c_head12 (h := m0 h g) j (by rw [m0_i (by decide)]; exact h12) hj hm) hm.1 rfl (by decide) (by omega) (by omega) (Nat.le_of_ble_eq_true rfl) (fun v_7 u_7 p_7 => ?_)
  obtain ⟨rfl, rfl⟩ := p_7
  rw [m0_a hm (k := 11) rfl rfl, hv]
  dsimp only [rs]
  refine j_callV1 dX12_drop_10 vl_X12_880 (f_become (h := m0 h g) hm (by omega)) hm.1 rfl (by decide) (by omega) (by omega) (Nat.le_of_ble_eq_true rfl) (fun v_10 u_10 p_10 => ?_)
  obtain ⟨rfl, rfl⟩ := p_10
  dsimp only [rs]
  refine j_aload_n dX12_drop_13 rfl ?_
  refine j_callV0 dX12_drop_14 vl_X12_860 (c_head12 (h := bcM (m0 h g) g v) j (by rw [bcM, hI_pI, if_neg (by omega), hI_pI, if_neg (by omega), hI_pI, if_neg (by omega), hI_pI, if_neg (by omega), hI_pI, if_neg (by omega), cps_0 hm (j := 0) rfl (Or.inl rfl), m0_i (by decide)]; exact h12) hj hm) hm.1 rfl (by decide) (by omega) (by omega) (Nat.le_of_ble_eq_true rfl) (fun v_14 u_14 p_14 => ?_)
  obtain ⟨rfl, rfl⟩ := p_14
  rw [show hI (bcM (m0 h g) g v) (g 11) j = nI v by rw [bcM, hI_pI, if_neg (fun z => mNe hm (i := 11) (j := 0) rfl rfl rfl z.1), hI_pI, if_neg (fun z => mNe hm (i := 11) (j := 0) rfl rfl rfl z.1), hI_pI, if_neg (fun z => mNe hm (i := 11) (j := 0) rfl rfl rfl z.1), hI_pI, if_neg (fun z => mNe hm (i := 11) (j := 0) rfl rfl rfl z.1), hI_pI, if_neg (fun z => mNe hm (i := 11) (j := 0) rfl rfl rfl z.1), cps_0 hm (j := 11) rfl (Or.inr (by decide)), m0_a hm (k := 11) rfl rfl]; exact hv]
  dsimp only [rs]
  exact j_ireturn dX12_drop_17 rfl rfl (⟨rfl, rfl⟩)

