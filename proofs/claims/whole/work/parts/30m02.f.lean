def F_X12_stepAt  (x1 : Int) (u : Mu) (P : Int → Prop) : Prop :=
  P (w32 (41 + (w32 (Int.tmod (w32 (mI u 0 15 + x1)) 40))))
theorem T_X12_stepAt  {x1 : Int} {u : Mu} {P : Int → Prop} {h : Hp} {g : Nat → Nat} (r_x1 : R32 x1) (m : Ms h g u)  (H : F_X12_stepAt x1 u P) : Con mX12_stepAt 1 0 0 [vr (some (g 0)), ii (x1)] h (QPI h P) := by
  refine con_of rfl (Nat.le_of_ble_eq_true rfl) (by decide) ?_
  show J mX12_stepAt 1 0 0 _ 0 [some (vr (some (g 0))), some (ii (x1))] [] h
  unfold F_X12_stepAt at H
  refine j_bipush (v := Int32.ofInt 41) (dk dt_X12_stepAt 0 rfl) (by decide) ?_
  refine j_aload_n (dk dt_X12_stepAt 1 rfl) rfl ?_
  refine jm_getI (kz := 15) (dk dt_X12_stepAt 2 rfl) fl_X12_224 rfl rfl m ?_
  refine j_iload_n (dk dt_X12_stepAt 3 rfl) rfl ?_
  refine jz_iadd (dk dt_X12_stepAt 4 rfl) ?_
  refine j_bipush (v := Int32.ofInt 40) (dk dt_X12_stepAt 5 rfl) (by decide) ?_
  refine jz_irem (dk dt_X12_stepAt 6 rfl) (r32_w _) (by decide) (by decide) ?_
  refine jz_iadd (dk dt_X12_stepAt 7 rfl) ?_
  exact j_ireturn (dk dt_X12_stepAt 8 rfl) rfl rfl ⟨_, rfl, (r32_w _), rfl, H⟩
def F_X12_step_35  (u : Mu) (P : Int → Mu → Prop) : Prop :=
  (∀ u_37, u_37 = uI u 0 17 0 → F_X12_stepAt (w32 ((mI u_37 0 16) - 1)) u_37 (fun x_47 => F_X12_copySheet 40 x_47 u_37 (fun u_55 => (∀ u_60, u_60 = uI u_55 0 65 0 → P x_47 u_60))))
theorem T_X12_step_35  {u : Mu} {P : Int → Mu → Prop} {h : Hp} {g : Nat → Nat}  (m : Ms h g u)   (H : F_X12_step_35 u P) : J mX12_step 2 0 0 (nx (QMI g P)) 35 [some (vr (some (g 0))), none] [] h := by
  unfold F_X12_step_35 at H
  refine j_aload_n (dk dt_X12_step 19 rfl) rfl ?_
  refine j_iconst (v := Int32.ofInt 0) (dk dt_X12_step 20 rfl) (by decide) ?_
  refine jm_putI (kz := 17) (dk dt_X12_step 21 rfl) fl_X12_230 rfl rfl rfl rfl m (by decide) (fun h_37 m_37 => ?_)
  replace H := H _ rfl
  refine j_aload_n (dk dt_X12_step 22 rfl) rfl ?_
  refine j_aload_n (dk dt_X12_step 23 rfl) rfl ?_
  refine jm_getI (kz := 16) (dk dt_X12_step 24 rfl) fl_X12_227 rfl rfl m_37 ?_
  refine j_iconst (v := Int32.ofInt 1) (dk dt_X12_step 25 rfl) (by decide) ?_
  refine jz_isub (dk dt_X12_step 26 rfl) ?_
  refine jz_callV1 (dk dt_X12_step 27 rfl) vl_X12_233 rfl (T_X12_stepAt (r32_w _) m_37 H) m_37.1.1 rfl (by decide) (Nat.zero_le _) (Nat.zero_le _) (Nat.le_of_ble_eq_true rfl) (fun v_47 h_47 P_47 => ?_)
  obtain ⟨x_47, rfl, r_47, rfl, H⟩ := P_47
  dsimp only [rs]
  refine j_istore_n (dk dt_X12_step 28 rfl) (by decide) ?_
  refine j_aload_n (dk dt_X12_step 29 rfl) rfl ?_
  refine j_bipush (v := Int32.ofInt 40) (dk dt_X12_step 30 rfl) (by decide) ?_
  refine j_iload_n (dk dt_X12_step 31 rfl) rfl ?_
  refine jz_callV2 (dk dt_X12_step 32 rfl) vl_X12_198 rfl (T_X12_copySheet (by decide) r_47 m_37 H) m_37.1.1 rfl (by decide) (Nat.zero_le _) (Nat.zero_le _) (Nat.le_of_ble_eq_true rfl) (fun v_55 h_55 P_55 => ?_)
  obtain ⟨u_55, rfl, m_55, H⟩ := P_55
  dsimp only [rs]
  refine j_aload_n (dk dt_X12_step 33 rfl) rfl ?_
  refine j_iconst (v := Int32.ofInt 0) (dk dt_X12_step 34 rfl) (by decide) ?_
  refine jm_putI (kz := 65) (dk dt_X12_step 35 rfl) fl_X12_205 rfl (nar_z (by decide)) (fit_z (by decide)) rfl m_55 (by decide) (fun h_60 m_60 => ?_)
  replace H := H _ rfl
  refine j_iload_n (dk dt_X12_step 36 rfl) rfl ?_
  exact j_ireturn (dk dt_X12_step 37 rfl) rfl rfl ⟨_, _, rfl, r_47, m_60, H⟩
def F_X12_step  (u : Mu) (P : Int → Mu → Prop) : Prop :=
  (if mI u 0 16 = 40 then (∀ u_19, u_19 = uI u 0 15 (w32 (Int.tmod (w32 (mI u 0 15 + 1)) 40)) → F_X12_step_35 u_19 P) else (∀ u_32, u_32 = uI u 0 16 (w32 (mI u 0 16 + 1)) → F_X12_step_35 u_32 P))
theorem T_X12_step  {u : Mu} {P : Int → Mu → Prop} {h : Hp} {g : Nat → Nat}  (m : Ms h g u)  (H : F_X12_step u P) : Con mX12_step 2 0 0 [vr (some (g 0))] h (QMI g P) := by
  refine con_of rfl (Nat.le_of_ble_eq_true rfl) (by decide) ?_
  show J mX12_step 2 0 0 _ 0 [some (vr (some (g 0))), none] [] h
  unfold F_X12_step at H
  refine j_aload_n (dk dt_X12_step 0 rfl) rfl ?_
  refine jm_getI (kz := 16) (dk dt_X12_step 1 rfl) fl_X12_227 rfl rfl m ?_
  refine j_bipush (v := Int32.ofInt 40) (dk dt_X12_step 2 rfl) (by decide) ?_
  refine jz_icmp_ne 25 (dk dt_X12_step 3 rfl) (by decide) (m.2.1.1 _ _) (by decide) H (fun H => ?_) (fun H => ?_)
  · refine j_aload_n (dk dt_X12_step 4 rfl) rfl ?_
    refine j_aload_n (dk dt_X12_step 5 rfl) rfl ?_
    refine jm_getI (kz := 15) (dk dt_X12_step 6 rfl) fl_X12_224 rfl rfl m ?_
    refine j_iconst (v := Int32.ofInt 1) (dk dt_X12_step 7 rfl) (by decide) ?_
    refine jz_iadd (dk dt_X12_step 8 rfl) ?_
    refine j_bipush (v := Int32.ofInt 40) (dk dt_X12_step 9 rfl) (by decide) ?_
    refine jz_irem (dk dt_X12_step 10 rfl) (r32_w _) (by decide) (by decide) ?_
    refine jm_putI (kz := 15) (dk dt_X12_step 11 rfl) fl_X12_224 rfl rfl rfl rfl m (r32_w _) (fun h_19 m_19 => ?_)
    replace H := H _ rfl
    refine j_goto 35 (dk dt_X12_step 12 rfl) (by decide) ?_
    exact j_el (T_X12_step_35  m_19   H) (And.intro rfl trivial)
  · refine j_aload_n (dk dt_X12_step 13 rfl) rfl ?_
    refine j_dup (dk dt_X12_step 14 rfl) rfl ?_
    refine jm_getI (kz := 16) (dk dt_X12_step 15 rfl) fl_X12_227 rfl rfl m ?_
    refine j_iconst (v := Int32.ofInt 1) (dk dt_X12_step 16 rfl) (by decide) ?_
    refine jz_iadd (dk dt_X12_step 17 rfl) ?_
    refine jm_putI (kz := 16) (dk dt_X12_step 18 rfl) fl_X12_227 rfl rfl rfl rfl m (r32_w _) (fun h_32 m_32 => ?_)
    replace H := H _ rfl
    exact j_el (T_X12_step_35  m_32   H) (And.intro rfl trivial)
def F_X12_choose_183  (u : Mu) (P : Int → Mu → Prop) : Prop :=
  F_X12_unsettled u (fun x_184 => P x_184 u)
theorem T_X12_choose_183  {u : Mu} {P : Int → Mu → Prop} {h : Hp} {g : Nat → Nat}  (m : Ms h g u)   (H : F_X12_choose_183 u P) : J mX12_choose 4 0 0 (nx (QMI g P)) 183 [some (vr (some (g 0))), none, none, none, none, none, none, none, none] [] h := by
  unfold F_X12_choose_183 at H
  refine j_aload_n (dk dt_X12_choose 104 rfl) rfl ?_
  refine jz_callV0 (dk dt_X12_choose 105 rfl) vl_X12_871 rfl (T_X12_unsettled m H) m.1.1 rfl (by decide) (Nat.zero_le _) (Nat.zero_le _) (Nat.le_of_ble_eq_true rfl) (fun v_184 h_184 P_184 => ?_)
  obtain ⟨x_184, rfl, r_184, rfl, H⟩ := P_184
  dsimp only [rs]
  exact j_ireturn (dk dt_X12_choose 106 rfl) rfl rfl ⟨_, _, rfl, r_184, m, H⟩
def F_X12_choose_119  (s1 : Int) (s2 : Int) (s3 : Int) (u : Mu) (P : Int → Mu → Prop) : Prop :=
  F_X12_setCell s1 s2 s3 u (fun u_119 => F_X12_choose_183 u_119 P)
theorem T_X12_choose_119  {s1 : Int} {s2 : Int} {s3 : Int} {u : Mu} {P : Int → Mu → Prop} {h : Hp} {g : Nat → Nat} (r_s1 : R32 s1) (r_s2 : R32 s2) (r_s3 : R32 s3) (m : Ms h g u)   (H : F_X12_choose_119 s1 s2 s3 u P) : J mX12_choose 4 0 0 (nx (QMI g P)) 119 [some (vr (some (g 0))), none, none, none, none, none, none, none, none] [ii (s3), ii (s2), ii (s1), vr (some (g 0))] h := by
  unfold F_X12_choose_119 at H
  refine jz_callV3 (dk dt_X12_choose 71 rfl) vl_X12_343 rfl (T_X12_setCell r_s1 r_s2 r_s3 m H) m.1.1 rfl (by decide) (Nat.zero_le _) (Nat.zero_le _) (Nat.le_of_ble_eq_true rfl) (fun v_119 h_119 P_119 => ?_)
  obtain ⟨u_119, rfl, m_119, H⟩ := P_119
  dsimp only [rs]
  refine j_goto 183 (dk dt_X12_choose 72 rfl) (by decide) ?_
  exact j_el (T_X12_choose_183  m_119   H) (And.intro rfl trivial)
def F_X12_choose_153  (x3 : Int) (x7 : Int) (s0 : Int) (u : Mu) (P : Int → Mu → Prop) : Prop :=
  (if s0 < 0 then F_X12_choose_183 u P else F_X12_linesOf 40 x7 u (fun x_165 => (if x_165 ≤ 1 then F_X12_choose_183 u P else F_X12_goLine x7 (w32 (s0 + 1)) x3 u (fun u_180 => F_X12_choose_183 u_180 P))))
theorem T_X12_choose_153  {x3 : Int} {x7 : Int} {s0 : Int} {u : Mu} {P : Int → Mu → Prop} {h : Hp} {g : Nat → Nat} (r_x3 : R32 x3) (r_x7 : R32 x7) (r_s0 : R32 s0) (m : Ms h g u)   (H : F_X12_choose_153 x3 x7 s0 u P) : J mX12_choose 4 0 0 (nx (QMI g P)) 153 [some (vr (some (g 0))), none, none, some (ii (x3)), none, none, none, some (ii (x7)), none] [ii (s0)] h := by
  unfold F_X12_choose_153 at H
  refine j_istore (dk dt_X12_choose 88 rfl) (by decide) ?_
  refine j_iload (dk dt_X12_choose 89 rfl) rfl ?_
  refine jz_if_lt 183 (dk dt_X12_choose 90 rfl) (by decide) r_s0 H (fun H => ?_) (fun H => ?_)
  · exact j_el (T_X12_choose_183  m   H) (And.intro rfl trivial)
  · refine j_aload_n (dk dt_X12_choose 91 rfl) rfl ?_
    refine j_bipush (v := Int32.ofInt 40) (dk dt_X12_choose 92 rfl) (by decide) ?_
    refine j_iload (dk dt_X12_choose 93 rfl) rfl ?_
    refine jz_callV2 (dk dt_X12_choose 94 rfl) vl_X12_209 rfl (T_X12_linesOf (by decide) r_x7 m H) m.1.1 rfl (by decide) (Nat.zero_le _) (Nat.zero_le _) (Nat.le_of_ble_eq_true rfl) (fun v_165 h_165 P_165 => ?_)
    obtain ⟨x_165, rfl, r_165, rfl, H⟩ := P_165
    dsimp only [rs]
    refine j_iconst (v := Int32.ofInt 1) (dk dt_X12_choose 95 rfl) (by decide) ?_
    refine jz_icmp_le 183 (dk dt_X12_choose 96 rfl) (by decide) r_165 (by decide) H (fun H => ?_) (fun H => ?_)
    · exact j_el (T_X12_choose_183  m   H) (And.intro rfl trivial)
    · refine j_aload_n (dk dt_X12_choose 97 rfl) rfl ?_
      refine j_iload (dk dt_X12_choose 98 rfl) rfl ?_
      refine j_iload (dk dt_X12_choose 99 rfl) rfl ?_
      refine j_iconst (v := Int32.ofInt 1) (dk dt_X12_choose 100 rfl) (by decide) ?_
      refine jz_iadd (dk dt_X12_choose 101 rfl) ?_
      refine j_iload_n (dk dt_X12_choose 102 rfl) rfl ?_
      refine jz_callV3 (dk dt_X12_choose 103 rfl) vl_X12_837 rfl (T_X12_goLine r_x7 (r32_w _) r_x3 m H) m.1.1 rfl (by decide) (Nat.zero_le _) (Nat.zero_le _) (Nat.le_of_ble_eq_true rfl) (fun v_180 h_180 P_180 => ?_)
      obtain ⟨u_180, rfl, m_180, H⟩ := P_180
      dsimp only [rs]
      exact j_el (T_X12_choose_183  m_180   H) (And.intro rfl trivial)
def F_X12_choose  (x1 : Int) (x2 : Int) (u : Mu) (P : Int → Mu → Prop) : Prop :=
  (∀ u_2, u_2 = uI u 0 0 0 → F_X12_in x1 0 (w32 ((mI u_2 0 98) - 1)) (fun x_13 => (if x_13 = 0 then F_X12_throwing 1 u_2 (fun x_21 u_21 => P x_21 u_21) else F_X12_step u_2 (fun x_26 u_26 => (0 ≤ x1 ∧ x1 < 370 ∧ (∀ u_36, u_36 = uI u_26 97 x1 1 → (0 ≤ x1 ∧ x1 < 370 ∧ (0 ≤ x1 ∧ x1 < 370 ∧ F_X12_placeOf 40 0 (mI u_36 92 x1) u_36 (fun x_55 => (0 ≤ x1 ∧ x1 < 370 ∧ F_X12_placeOf 40 1 (mI u_36 93 x1) u_36 (fun x_70 => (if mI u_36 91 x1 = 3 then (if x_55 < 0 then F_X12_choose_183 u_36 P else (if x_70 < 0 then F_X12_choose_183 u_36 P else (if x2 = 0 then (0 ≤ x1 ∧ x1 < 370 ∧ F_X12_choose_119 (w32 (x_55 + 1)) (w32 (x_70 + 1)) (mI u_36 94 x1) u_36 P) else (0 ≤ x1 ∧ x1 < 370 ∧ F_X12_choose_119 (w32 (x_55 + 1)) (w32 (x_70 + 1)) (mI u_36 95 x1) u_36 P)))) else (0 ≤ x1 ∧ x1 < 370 ∧ (if x2 = mI u_36 96 x1 then (if w32 ((mI u_36 91 x1) - 1) = 0 then F_X12_choose_153 x_26 (w32 ((mI u_36 91 x1) - 1)) x_55 u_36 P else F_X12_choose_153 x_26 (w32 ((mI u_36 91 x1) - 1)) x_70 u_36 P) else F_X12_choose_183 u_36 P))))))))))))))
theorem T_X12_choose  {x1 : Int} {x2 : Int} {u : Mu} {P : Int → Mu → Prop} {h : Hp} {g : Nat → Nat} (r_x1 : R32 x1) (r_x2 : R32 x2) (m : Ms h g u)  (H : F_X12_choose x1 x2 u P) : Con mX12_choose 4 0 0 [vr (some (g 0)), ii (x1), ii (x2)] h (QMI g P) := by
  refine con_of rfl (Nat.le_of_ble_eq_true rfl) (by decide) ?_
  show J mX12_choose 4 0 0 _ 0 [some (vr (some (g 0))), some (ii (x1)), some (ii (x2)), none, none, none, none, none, none] [] h
  unfold F_X12_choose at H
  refine j_aload_n (dk dt_X12_choose 0 rfl) rfl ?_
  refine j_iconst (v := Int32.ofInt 0) (dk dt_X12_choose 1 rfl) (by decide) ?_
  refine jm_putI (kz := 0) (dk dt_X12_choose 2 rfl) fl_X12_202 rfl rfl rfl rfl m (by decide) (fun h_2 m_2 => ?_)
  replace H := H _ rfl
  refine j_iload_n (dk dt_X12_choose 3 rfl) rfl ?_
  refine j_iconst (v := Int32.ofInt 0) (dk dt_X12_choose 4 rfl) (by decide) ?_
  refine j_aload_n (dk dt_X12_choose 5 rfl) rfl ?_
  refine jm_getI (kz := 98) (dk dt_X12_choose 6 rfl) fl_X12_868 rfl rfl m_2 ?_
  refine j_iconst (v := Int32.ofInt 1) (dk dt_X12_choose 7 rfl) (by decide) ?_
  refine jz_isub (dk dt_X12_choose 8 rfl) ?_
  refine j_callS3 (dk dt_X12_choose 9 rfl) sl_X12_220 (T_X12_in r_x1 (by decide) (r32_w _) H) rfl (by decide) (Nat.zero_le _) (Nat.zero_le _) (Nat.le_of_ble_eq_true rfl) (fun v_13 h_13 P_13 => ?_)
  obtain ⟨x_13, rfl, r_13, rfl, H⟩ := P_13
  dsimp only [rs]
  refine jz_if_ne 25 (dk dt_X12_choose 10 rfl) (by decide) r_13 H (fun H => ?_) (fun H => ?_)
  · refine j_aload_n (dk dt_X12_choose 11 rfl) rfl ?_
    refine j_iconst (v := Int32.ofInt 1) (dk dt_X12_choose 12 rfl) (by decide) ?_
    refine jz_callV1 (dk dt_X12_choose 13 rfl) vl_X12_237 rfl (T_X12_throwing (by decide) m_2 H) m_2.1.1 rfl (by decide) (Nat.zero_le _) (Nat.zero_le _) (Nat.le_of_ble_eq_true rfl) (fun v_21 h_21 P_21 => ?_)
    obtain ⟨x_21, u_21, rfl, r_21, m_21, H⟩ := P_21
    dsimp only [rs]
    exact j_ireturn (dk dt_X12_choose 14 rfl) rfl rfl ⟨_, _, rfl, r_21, m_21, H⟩
  · refine j_aload_n (dk dt_X12_choose 15 rfl) rfl ?_
    refine jz_callV0 (dk dt_X12_choose 16 rfl) vl_X12_340 rfl (T_X12_step m_2 H) m_2.1.1 rfl (by decide) (Nat.zero_le _) (Nat.zero_le _) (Nat.le_of_ble_eq_true rfl) (fun v_26 h_26 P_26 => ?_)
    obtain ⟨x_26, u_26, rfl, r_26, m_26, H⟩ := P_26
    dsimp only [rs]
    refine j_istore_n (dk dt_X12_choose 17 rfl) (by decide) ?_
    refine j_aload_n (dk dt_X12_choose 18 rfl) rfl ?_
    refine jm_getA (dk dt_X12_choose 19 rfl) fl_X12_183 rfl (c := 16) rfl m_26 ?_
    refine j_iload_n (dk dt_X12_choose 20 rfl) rfl ?_
    refine j_iconst (v := Int32.ofInt 1) (dk dt_X12_choose 21 rfl) (by decide) ?_
    obtain ⟨p_36, q_36, H⟩ := H
    refine jm_zast (dk dt_X12_choose 22 rfl) rfl rfl m_26 p_36 q_36 (by decide) (fun h_36 m_36 => ?_)
    replace H := H _ rfl
    refine j_aload_n (dk dt_X12_choose 23 rfl) rfl ?_
    refine jm_getA (dk dt_X12_choose 24 rfl) fl_X12_165 rfl (c := 14) rfl m_36 ?_
    refine j_iload_n (dk dt_X12_choose 25 rfl) rfl ?_
    obtain ⟨p_42, q_42, H⟩ := H
    refine jm_iald (dk dt_X12_choose 26 rfl) rfl rfl m_36 p_42 q_42 ?_
    refine j_istore (dk dt_X12_choose 27 rfl) (by decide) ?_
    refine j_aload_n (dk dt_X12_choose 28 rfl) rfl ?_
    refine j_bipush (v := Int32.ofInt 40) (dk dt_X12_choose 29 rfl) (by decide) ?_
    refine j_iconst (v := Int32.ofInt 0) (dk dt_X12_choose 30 rfl) (by decide) ?_
    refine j_aload_n (dk dt_X12_choose 31 rfl) rfl ?_
    refine jm_getA (dk dt_X12_choose 32 rfl) fl_X12_168 rfl (c := 14) rfl m_36 ?_
    refine j_iload_n (dk dt_X12_choose 33 rfl) rfl ?_
    obtain ⟨p_54, q_54, H⟩ := H
    refine jm_iald (dk dt_X12_choose 34 rfl) rfl rfl m_36 p_54 q_54 ?_
    refine jz_callV3 (dk dt_X12_choose 35 rfl) vl_X12_217 rfl (T_X12_placeOf (by decide) (by decide) (m_36.2.1.1 _ _) m_36 H) m_36.1.1 rfl (by decide) (Nat.zero_le _) (Nat.zero_le _) (Nat.le_of_ble_eq_true rfl) (fun v_55 h_55 P_55 => ?_)
    obtain ⟨x_55, rfl, r_55, rfl, H⟩ := P_55
    dsimp only [rs]
    refine j_istore (dk dt_X12_choose 36 rfl) (by decide) ?_
    refine j_aload_n (dk dt_X12_choose 37 rfl) rfl ?_
    refine j_bipush (v := Int32.ofInt 40) (dk dt_X12_choose 38 rfl) (by decide) ?_
    refine j_iconst (v := Int32.ofInt 1) (dk dt_X12_choose 39 rfl) (by decide) ?_
    refine j_aload_n (dk dt_X12_choose 40 rfl) rfl ?_
    refine jm_getA (dk dt_X12_choose 41 rfl) fl_X12_171 rfl (c := 14) rfl m_36 ?_
    refine j_iload_n (dk dt_X12_choose 42 rfl) rfl ?_
    obtain ⟨p_69, q_69, H⟩ := H
    refine jm_iald (dk dt_X12_choose 43 rfl) rfl rfl m_36 p_69 q_69 ?_
    refine jz_callV3 (dk dt_X12_choose 44 rfl) vl_X12_217 rfl (T_X12_placeOf (by decide) (by decide) (m_36.2.1.1 _ _) m_36 H) m_36.1.1 rfl (by decide) (Nat.zero_le _) (Nat.zero_le _) (Nat.le_of_ble_eq_true rfl) (fun v_70 h_70 P_70 => ?_)
    obtain ⟨x_70, rfl, r_70, rfl, H⟩ := P_70
    dsimp only [rs]
    refine j_istore (dk dt_X12_choose 45 rfl) (by decide) ?_
    refine j_iload (dk dt_X12_choose 46 rfl) rfl ?_
    refine j_iconst (v := Int32.ofInt 3) (dk dt_X12_choose 47 rfl) (by decide) ?_
    refine jz_icmp_ne 125 (dk dt_X12_choose 48 rfl) (by decide) (m_36.2.1.1 _ _) (by decide) H (fun H => ?_) (fun H => ?_)
    · refine j_iload (dk dt_X12_choose 49 rfl) rfl ?_
      refine jz_if_lt 183 (dk dt_X12_choose 50 rfl) (by decide) r_55 H (fun H => ?_) (fun H => ?_)
      · exact j_el (T_X12_choose_183  m_36   H) (And.intro rfl trivial)
      · refine j_iload (dk dt_X12_choose 51 rfl) rfl ?_
        refine jz_if_lt 183 (dk dt_X12_choose 52 rfl) (by decide) r_70 H (fun H => ?_) (fun H => ?_)
        · exact j_el (T_X12_choose_183  m_36   H) (And.intro rfl trivial)
        · refine j_aload_n (dk dt_X12_choose 53 rfl) rfl ?_
          refine j_iload (dk dt_X12_choose 54 rfl) rfl ?_
          refine j_iconst (v := Int32.ofInt 1) (dk dt_X12_choose 55 rfl) (by decide) ?_
          refine jz_iadd (dk dt_X12_choose 56 rfl) ?_
          refine j_iload (dk dt_X12_choose 57 rfl) rfl ?_
          refine j_iconst (v := Int32.ofInt 1) (dk dt_X12_choose 58 rfl) (by decide) ?_
          refine jz_iadd (dk dt_X12_choose 59 rfl) ?_
          refine j_iload_n (dk dt_X12_choose 60 rfl) rfl ?_
          refine jz_if_eq 113 (dk dt_X12_choose 61 rfl) (by decide) r_x2 H (fun H => ?_) (fun H => ?_)
          · refine j_aload_n (dk dt_X12_choose 67 rfl) rfl ?_
            refine jm_getA (dk dt_X12_choose 68 rfl) fl_X12_174 rfl (c := 14) rfl m_36 ?_
            refine j_iload_n (dk dt_X12_choose 69 rfl) rfl ?_
            obtain ⟨p_118, q_118, H⟩ := H
            refine jm_iald (dk dt_X12_choose 70 rfl) rfl rfl m_36 p_118 q_118 ?_
            exact j_el (T_X12_choose_119 (r32_w _) (r32_w _) (m_36.2.1.1 _ _) m_36   H) (And.intro rfl trivial)
          · refine j_aload_n (dk dt_X12_choose 62 rfl) rfl ?_
            refine jm_getA (dk dt_X12_choose 63 rfl) fl_X12_177 rfl (c := 14) rfl m_36 ?_
            refine j_iload_n (dk dt_X12_choose 64 rfl) rfl ?_
            obtain ⟨p_109, q_109, H⟩ := H
            refine jm_iald (dk dt_X12_choose 65 rfl) rfl rfl m_36 p_109 q_109 ?_
            refine j_goto 119 (dk dt_X12_choose 66 rfl) (by decide) ?_
            exact j_el (T_X12_choose_119 (r32_w _) (r32_w _) (m_36.2.1.1 _ _) m_36   H) (And.intro rfl trivial)
    · refine j_iload_n (dk dt_X12_choose 73 rfl) rfl ?_
      refine j_aload_n (dk dt_X12_choose 74 rfl) rfl ?_
      refine jm_getA (dk dt_X12_choose 75 rfl) fl_X12_180 rfl (c := 16) rfl m_36 ?_
      refine j_iload_n (dk dt_X12_choose 76 rfl) rfl ?_
      obtain ⟨p_131, q_131, H⟩ := H
      refine jm_zald (dk dt_X12_choose 77 rfl) rfl rfl m_36 p_131 q_131 ?_
      refine jz_icmp_ne 183 (dk dt_X12_choose 78 rfl) (by decide) r_x2 (m_36.2.1.1 _ _) H (fun H => ?_) (fun H => ?_)
      · refine j_iload (dk dt_X12_choose 79 rfl) rfl ?_
        refine j_iconst (v := Int32.ofInt 1) (dk dt_X12_choose 80 rfl) (by decide) ?_
        refine jz_isub (dk dt_X12_choose 81 rfl) ?_
        refine j_istore (dk dt_X12_choose 82 rfl) (by decide) ?_
        refine j_iload (dk dt_X12_choose 83 rfl) rfl ?_
        refine jz_if_ne 151 (dk dt_X12_choose 84 rfl) (by decide) (r32_w _) H (fun H => ?_) (fun H => ?_)
        · refine j_iload (dk dt_X12_choose 85 rfl) rfl ?_
          refine j_goto 153 (dk dt_X12_choose 86 rfl) (by decide) ?_
          exact j_el (T_X12_choose_153 r_26 (r32_w _) r_55 m_36   H) (And.intro rfl (And.intro rfl (And.intro rfl trivial)))
        · refine j_iload (dk dt_X12_choose 87 rfl) rfl ?_
          exact j_el (T_X12_choose_153 r_26 (r32_w _) r_70 m_36   H) (And.intro rfl (And.intro rfl (And.intro rfl trivial)))
      · exact j_el (T_X12_choose_183  m_36   H) (And.intro rfl trivial)
def F_X12_clash  (x1 : Int) (x2 : Int) (x3 : Int) (x4 : Int) (u : Mu) (P : Mu → Prop) : Prop :=
  (0 ≤ mI u 0 98 ∧ mI u 0 98 < 370 ∧ (∀ u_9, u_9 = uI u 91 (mI u 0 98) x1 → (0 ≤ mI u_9 0 98 ∧ mI u_9 0 98 < 370 ∧ (∀ u_19, u_19 = uI u_9 92 (mI u_9 0 98) x2 → (0 ≤ mI u_19 0 98 ∧ mI u_19 0 98 < 370 ∧ (∀ u_29, u_29 = uI u_19 93 (mI u_19 0 98) x3 → (Z1 x4 ∧ (0 ≤ mI u_29 0 98 ∧ mI u_29 0 98 < 370 ∧ (∀ u_40, u_40 = uI u_29 96 (mI u_29 0 98) x4 → (0 ≤ mI u_40 0 98 ∧ mI u_40 0 98 < 370 ∧ (∀ u_50, u_50 = uI u_40 94 (mI u_40 0 98) 0 → (0 ≤ mI u_50 0 98 ∧ mI u_50 0 98 < 370 ∧ (∀ u_60, u_60 = uI u_50 95 (mI u_50 0 98) 0 → (0 ≤ mI u_60 0 98 ∧ mI u_60 0 98 < 370 ∧ (∀ u_70, u_70 = uI u_60 97 (mI u_60 0 98) 0 → (∀ u_78, u_78 = uI u_70 0 98 (w32 (mI u_70 0 98 + 1)) → P u_78))))))))))))))))
theorem T_X12_clash  {x1 : Int} {x2 : Int} {x3 : Int} {x4 : Int} {u : Mu} {P : Mu → Prop} {h : Hp} {g : Nat → Nat} (r_x1 : R32 x1) (r_x2 : R32 x2) (r_x3 : R32 x3) (r_x4 : R32 x4) (m : Ms h g u)  (H : F_X12_clash x1 x2 x3 x4 u P) : Con mX12_clash 1 0 0 [vr (some (g 0)), ii (x1), ii (x2), ii (x3), ii (x4)] h (QMV g P) := by
  refine con_of rfl (Nat.le_of_ble_eq_true rfl) (by decide) ?_
  show J mX12_clash 1 0 0 _ 0 [some (vr (some (g 0))), some (ii (x1)), some (ii (x2)), some (ii (x3)), some (ii (x4))] [] h
  unfold F_X12_clash at H
  refine j_aload_n (dk dt_X12_clash 0 rfl) rfl ?_
  refine jm_getA (dk dt_X12_clash 1 rfl) fl_X12_165 rfl (c := 14) rfl m ?_
  refine j_aload_n (dk dt_X12_clash 2 rfl) rfl ?_
  refine jm_getI (kz := 98) (dk dt_X12_clash 3 rfl) fl_X12_868 rfl rfl m ?_
  refine j_iload_n (dk dt_X12_clash 4 rfl) rfl ?_
  obtain ⟨p_9, q_9, H⟩ := H
  refine jm_iast (dk dt_X12_clash 5 rfl) rfl rfl m p_9 q_9 r_x1 (fun h_9 m_9 => ?_)
  replace H := H _ rfl
  refine j_aload_n (dk dt_X12_clash 6 rfl) rfl ?_
  refine jm_getA (dk dt_X12_clash 7 rfl) fl_X12_168 rfl (c := 14) rfl m_9 ?_
  refine j_aload_n (dk dt_X12_clash 8 rfl) rfl ?_
  refine jm_getI (kz := 98) (dk dt_X12_clash 9 rfl) fl_X12_868 rfl rfl m_9 ?_
  refine j_iload_n (dk dt_X12_clash 10 rfl) rfl ?_
  obtain ⟨p_19, q_19, H⟩ := H
  refine jm_iast (dk dt_X12_clash 11 rfl) rfl rfl m_9 p_19 q_19 r_x2 (fun h_19 m_19 => ?_)
  replace H := H _ rfl
  refine j_aload_n (dk dt_X12_clash 12 rfl) rfl ?_
  refine jm_getA (dk dt_X12_clash 13 rfl) fl_X12_171 rfl (c := 14) rfl m_19 ?_
  refine j_aload_n (dk dt_X12_clash 14 rfl) rfl ?_
  refine jm_getI (kz := 98) (dk dt_X12_clash 15 rfl) fl_X12_868 rfl rfl m_19 ?_
  refine j_iload_n (dk dt_X12_clash 16 rfl) rfl ?_
  obtain ⟨p_29, q_29, H⟩ := H
  refine jm_iast (dk dt_X12_clash 17 rfl) rfl rfl m_19 p_29 q_29 r_x3 (fun h_29 m_29 => ?_)
  replace H := H _ rfl
  refine j_aload_n (dk dt_X12_clash 18 rfl) rfl ?_
  refine jm_getA (dk dt_X12_clash 19 rfl) fl_X12_180 rfl (c := 16) rfl m_29 ?_
  refine j_aload_n (dk dt_X12_clash 20 rfl) rfl ?_
  refine jm_getI (kz := 98) (dk dt_X12_clash 21 rfl) fl_X12_868 rfl rfl m_29 ?_
  refine j_iload (dk dt_X12_clash 22 rfl) rfl ?_
  obtain ⟨z1_40, H⟩ := H
  obtain ⟨p_40, q_40, H⟩ := H
  refine jm_zast (dk dt_X12_clash 23 rfl) rfl rfl m_29 p_40 q_40 z1_40 (fun h_40 m_40 => ?_)
  replace H := H _ rfl
  refine j_aload_n (dk dt_X12_clash 24 rfl) rfl ?_
  refine jm_getA (dk dt_X12_clash 25 rfl) fl_X12_174 rfl (c := 14) rfl m_40 ?_
  refine j_aload_n (dk dt_X12_clash 26 rfl) rfl ?_
  refine jm_getI (kz := 98) (dk dt_X12_clash 27 rfl) fl_X12_868 rfl rfl m_40 ?_
  refine j_iconst (v := Int32.ofInt 0) (dk dt_X12_clash 28 rfl) (by decide) ?_
  obtain ⟨p_50, q_50, H⟩ := H
  refine jm_iast (dk dt_X12_clash 29 rfl) rfl rfl m_40 p_50 q_50 (by decide) (fun h_50 m_50 => ?_)
  replace H := H _ rfl
  refine j_aload_n (dk dt_X12_clash 30 rfl) rfl ?_
  refine jm_getA (dk dt_X12_clash 31 rfl) fl_X12_177 rfl (c := 14) rfl m_50 ?_
  refine j_aload_n (dk dt_X12_clash 32 rfl) rfl ?_
  refine jm_getI (kz := 98) (dk dt_X12_clash 33 rfl) fl_X12_868 rfl rfl m_50 ?_
  refine j_iconst (v := Int32.ofInt 0) (dk dt_X12_clash 34 rfl) (by decide) ?_
  obtain ⟨p_60, q_60, H⟩ := H
  refine jm_iast (dk dt_X12_clash 35 rfl) rfl rfl m_50 p_60 q_60 (by decide) (fun h_60 m_60 => ?_)
  replace H := H _ rfl
  refine j_aload_n (dk dt_X12_clash 36 rfl) rfl ?_
  refine jm_getA (dk dt_X12_clash 37 rfl) fl_X12_183 rfl (c := 16) rfl m_60 ?_
  refine j_aload_n (dk dt_X12_clash 38 rfl) rfl ?_
  refine jm_getI (kz := 98) (dk dt_X12_clash 39 rfl) fl_X12_868 rfl rfl m_60 ?_
  refine j_iconst (v := Int32.ofInt 0) (dk dt_X12_clash 40 rfl) (by decide) ?_
  obtain ⟨p_70, q_70, H⟩ := H
  refine jm_zast (dk dt_X12_clash 41 rfl) rfl rfl m_60 p_70 q_70 (by decide) (fun h_70 m_70 => ?_)
  replace H := H _ rfl
  refine j_aload_n (dk dt_X12_clash 42 rfl) rfl ?_
  refine j_dup (dk dt_X12_clash 43 rfl) rfl ?_
  refine jm_getI (kz := 98) (dk dt_X12_clash 44 rfl) fl_X12_868 rfl rfl m_70 ?_
  refine j_iconst (v := Int32.ofInt 1) (dk dt_X12_clash 45 rfl) (by decide) ?_
  refine jz_iadd (dk dt_X12_clash 46 rfl) ?_
  refine jm_putI (kz := 98) (dk dt_X12_clash 47 rfl) fl_X12_868 rfl rfl rfl rfl m_70 (r32_w _) (fun h_78 m_78 => ?_)
  replace H := H _ rfl
  exact j_return (dk dt_X12_clash 48 rfl) rfl ⟨_, rfl, m_78, H⟩
def L_X12_close_2  (x1 : Int) (u : Mu) (P : (Int × Mu) ⊕ ((Mu)) → Prop) : Prop :=
  (if 1600 ≤ x1 then P (.inr u) else (0 ≤ x1 ∧ x1 < 1600 ∧ (0 ≤ x1 ∧ x1 < 1600 ∧ (∀ u_20, u_20 = uG u 83 x1 (mG u 82 x1) → P (.inl (w32 (x1 + 1), u_20))))))
theorem U_X12_close_2  {x1 : Int} {u : Mu} {P : (Int × Mu) ⊕ ((Mu)) → Prop} {h : Hp} {g : Nat → Nat} {post : Option Sv ⊕ String → Hp → Prop} (r_x1 : R32 x1) (m : Ms h g u)  (hl : ∀ (x1 : Int) (u : Mu) (h : Hp), P (.inl (x1, u)) → Ms h g u → R32 x1 → J mX12_close 2 0 0 post 2 [some (vr (some (g 0))), some (ii (x1)), none, none] [] h) (he0 : ∀ (u : Mu) (h : Hp), P (.inr u) → Ms h g u → J mX12_close 2 0 0 post 27 [some (vr (some (g 0))), none, none, none] [] h) (H : L_X12_close_2 x1 u P) : J mX12_close 2 0 0 post 2 [some (vr (some (g 0))), some (ii (x1)), none, none] [] h := by
  unfold L_X12_close_2 at H
  refine j_iload_n (dk dt_X12_close 2 rfl) rfl ?_
  refine j_sipush (v := Int32.ofInt 1600) (dk dt_X12_close 3 rfl) (by decide) ?_
  refine jz_icmp_ge 27 (dk dt_X12_close 4 rfl) (by decide) r_x1 (by decide) H (fun H => ?_) (fun H => ?_)
  · exact j_el (he0 _ _ H m) (And.intro rfl trivial)
  · refine j_aload_n (dk dt_X12_close 5 rfl) rfl ?_
    refine jm_getA (dk dt_X12_close 6 rfl) fl_X12_144 rfl (c := 15) rfl m ?_
    refine j_iload_n (dk dt_X12_close 7 rfl) rfl ?_
    refine j_aload_n (dk dt_X12_close 8 rfl) rfl ?_
    refine jm_getA (dk dt_X12_close 9 rfl) fl_X12_141 rfl (c := 15) rfl m ?_
    refine j_iload_n (dk dt_X12_close 10 rfl) rfl ?_
    obtain ⟨p_19, q_19, H⟩ := H
    refine jm_lald (dk dt_X12_close 11 rfl) rfl rfl m p_19 q_19 ?_
    obtain ⟨p_20, q_20, H⟩ := H
    refine jm_last (dk dt_X12_close 12 rfl) rfl rfl m p_20 q_20 (m.2.1.2.1 _ _) (fun h_20 m_20 => ?_)
    replace H := H _ rfl
    refine jz_iinc (dk dt_X12_close 13 rfl) rfl ?_
    refine j_goto 2 (dk dt_X12_close 14 rfl) (by decide) ?_
    exact j_el (hl _ _ _ H m_20 (r32_w _)) (And.intro rfl (And.intro rfl trivial))
def F_X12_close_93  (x1 : Int) (x2 : Int) (u : Mu) (P : (Int × Mu) ⊕ ((Mu)) → Prop) : Prop :=
  P (.inl (w32 (x2 + 1), u))
theorem T_X12_close_93  {x1 : Int} {x2 : Int} {u : Mu} {P : (Int × Mu) ⊕ ((Mu)) → Prop} {h : Hp} {g : Nat → Nat} {post : Option Sv ⊕ String → Hp → Prop} (r_x1 : R32 x1) (r_x2 : R32 x2) (m : Ms h g u)  (hl : ∀ (x2 : Int) (u : Mu) (h : Hp), P (.inl (x2, u)) → Ms h g u → R32 x2 → J mX12_close 2 0 0 post 38 [some (vr (some (g 0))), some (ii (x1)), some (ii (x2)), none] [] h) (he0 : ∀ (u : Mu) (h : Hp), P (.inr u) → Ms h g u → J mX12_close 2 0 0 post 99 [some (vr (some (g 0))), some (ii (x1)), none, none] [] h) (H : F_X12_close_93 x1 x2 u P) : J mX12_close 2 0 0 (post) 93 [some (vr (some (g 0))), some (ii (x1)), some (ii (x2)), none] [] h := by
  unfold F_X12_close_93 at H
  refine jz_iinc (dk dt_X12_close 57 rfl) rfl ?_
  refine j_goto 38 (dk dt_X12_close 58 rfl) (by decide) ?_
  exact j_el (hl _ _ _ H m (r32_w _)) (And.intro rfl (And.intro rfl (And.intro rfl trivial)))
def L_X12_close_59  (x1 : Int) (x2 : Int) (x3 : Int) (u : Mu) (P : (Int × Mu) ⊕ ((Mu)) → Prop) : Prop :=
  (if 5 ≤ x3 then P (.inr u) else (0 ≤ w32 (w32 (5 * x2) + x3) ∧ w32 (w32 (5 * x2) + x3) < 1600 ∧ (0 ≤ w32 (w32 (5 * x1) + x3) ∧ w32 (w32 (5 * x1) + x3) < 1600 ∧ (∀ u_86, u_86 = uG u 83 (w32 (w32 (5 * x2) + x3)) (lOr (mG u 83 (w32 (w32 (5 * x2) + x3))) (mG u 83 (w32 (w32 (5 * x1) + x3)))) → P (.inl (w32 (x3 + 1), u_86))))))
theorem U_X12_close_59  {x1 : Int} {x2 : Int} {x3 : Int} {u : Mu} {P : (Int × Mu) ⊕ ((Mu)) → Prop} {h : Hp} {g : Nat → Nat} {post : Option Sv ⊕ String → Hp → Prop} (r_x1 : R32 x1) (r_x2 : R32 x2) (r_x3 : R32 x3) (m : Ms h g u)  (hl : ∀ (x3 : Int) (u : Mu) (h : Hp), P (.inl (x3, u)) → Ms h g u → R32 x3 → J mX12_close 2 0 0 post 59 [some (vr (some (g 0))), some (ii (x1)), some (ii (x2)), some (ii (x3))] [] h) (he0 : ∀ (u : Mu) (h : Hp), P (.inr u) → Ms h g u → J mX12_close 2 0 0 post 93 [some (vr (some (g 0))), some (ii (x1)), some (ii (x2)), none] [] h) (H : L_X12_close_59 x1 x2 x3 u P) : J mX12_close 2 0 0 post 59 [some (vr (some (g 0))), some (ii (x1)), some (ii (x2)), some (ii (x3))] [] h := by
  unfold L_X12_close_59 at H
  refine j_iload_n (dk dt_X12_close 33 rfl) rfl ?_
  refine j_iconst (v := Int32.ofInt 5) (dk dt_X12_close 34 rfl) (by decide) ?_
  refine jz_icmp_ge 93 (dk dt_X12_close 35 rfl) (by decide) r_x3 (by decide) H (fun H => ?_) (fun H => ?_)
  · exact j_el (he0 _ _ H m) (And.intro rfl (And.intro rfl (And.intro rfl trivial)))
  · refine j_aload_n (dk dt_X12_close 36 rfl) rfl ?_
    refine jm_getA (dk dt_X12_close 37 rfl) fl_X12_144 rfl (c := 15) rfl m ?_
    refine j_iconst (v := Int32.ofInt 5) (dk dt_X12_close 38 rfl) (by decide) ?_
    refine j_iload_n (dk dt_X12_close 39 rfl) rfl ?_
    refine jz_imul (dk dt_X12_close 40 rfl) ?_
    refine j_iload_n (dk dt_X12_close 41 rfl) rfl ?_
    refine jz_iadd (dk dt_X12_close 42 rfl) ?_
    refine j_dup2 (dk dt_X12_close 43 rfl) rfl rfl ?_
    obtain ⟨p_74, q_74, H⟩ := H
    refine jm_lald (dk dt_X12_close 44 rfl) rfl rfl m p_74 q_74 ?_
    refine j_aload_n (dk dt_X12_close 45 rfl) rfl ?_
    refine jm_getA (dk dt_X12_close 46 rfl) fl_X12_144 rfl (c := 15) rfl m ?_
    refine j_iconst (v := Int32.ofInt 5) (dk dt_X12_close 47 rfl) (by decide) ?_
    refine j_iload_n (dk dt_X12_close 48 rfl) rfl ?_
    refine jz_imul (dk dt_X12_close 49 rfl) ?_
    refine j_iload_n (dk dt_X12_close 50 rfl) rfl ?_
    refine jz_iadd (dk dt_X12_close 51 rfl) ?_
    obtain ⟨p_84, q_84, H⟩ := H
    refine jm_lald (dk dt_X12_close 52 rfl) rfl rfl m p_84 q_84 ?_
    refine jz_lor (dk dt_X12_close 53 rfl) ?_
    refine jm_last (dk dt_X12_close 54 rfl) rfl rfl m p_74 q_74 (r64_t _) (fun h_86 m_86 => ?_)
    replace H := H _ rfl
    refine jz_iinc (dk dt_X12_close 55 rfl) rfl ?_
    refine j_goto 59 (dk dt_X12_close 56 rfl) (by decide) ?_
    exact j_el (hl _ _ _ H m_86 (r32_w _)) (And.intro rfl (And.intro rfl (And.intro rfl (And.intro rfl trivial))))
def F_X12_close_59  (x1 : Int) (x2 : Int) (x3 : Int) (u : Mu) (P : (Int × Mu) ⊕ ((Mu)) → Prop) : Prop :=
  lp (S := Int × Mu) (E := (Mu)) (fun q P_ => L_X12_close_59 x1 x2 q.1 q.2 P_) (x3, u) (fun (u : Mu) => F_X12_close_93 x1 x2 u P)
theorem T_X12_close_59  {x1 : Int} {x2 : Int} {x3 : Int} {u : Mu} {P : (Int × Mu) ⊕ ((Mu)) → Prop} {h : Hp} {g : Nat → Nat} {post : Option Sv ⊕ String → Hp → Prop} (r_x1 : R32 x1) (r_x2 : R32 x2) (r_x3 : R32 x3) (m : Ms h g u)  (hl : ∀ (x2 : Int) (u : Mu) (h : Hp), P (.inl (x2, u)) → Ms h g u → R32 x2 → J mX12_close 2 0 0 post 38 [some (vr (some (g 0))), some (ii (x1)), some (ii (x2)), none] [] h) (he0 : ∀ (u : Mu) (h : Hp), P (.inr u) → Ms h g u → J mX12_close 2 0 0 post 99 [some (vr (some (g 0))), some (ii (x1)), none, none] [] h) (H : F_X12_close_59 x1 x2 x3 u P) : J mX12_close 2 0 0 (post) 59 [some (vr (some (g 0))), some (ii (x1)), some (ii (x2)), some (ii (x3))] [] h := by
  unfold F_X12_close_59 at H
  refine lp_J (G := fun q => ∀ h : Hp, Ms h g (q.2) → R32 (q.1) → J mX12_close 2 0 0 (post) 59 [some (vr (some (g 0))), some (ii (x1)), some (ii (x2)), some (ii ((q.1)))] [] h) (fun q P_ hl_ he_ Hb => ?_) (x3, u) H _ m r_x3
  obtain ⟨x3, u⟩ := q
  intro h m r_x3
  refine U_X12_close_59 (P := P_) r_x1 r_x2 r_x3 m  (fun x3 u h Hp m r_x3 => hl_ (x3, u) Hp h m r_x3) ?_ Hb
  · intro u h Hp m
    have H := he_ _ Hp
    exact j_el (T_X12_close_93 r_x1 r_x2 m  hl he0 H) (And.intro rfl (And.intro rfl (And.intro rfl trivial)))
def L_X12_close_38  (x1 : Int) (x2 : Int) (u : Mu) (P : (Int × Mu) ⊕ ((Mu)) → Prop) : Prop :=
  (if 320 ≤ x2 then P (.inr u) else F_X12_bit 83 x2 x1 u (fun x_51 => (if x_51 = 0 then F_X12_close_93 x1 x2 u P else F_X12_close_59 x1 x2 0 u P)))
theorem U_X12_close_38  {x1 : Int} {x2 : Int} {u : Mu} {P : (Int × Mu) ⊕ ((Mu)) → Prop} {h : Hp} {g : Nat → Nat} {post : Option Sv ⊕ String → Hp → Prop} (r_x1 : R32 x1) (r_x2 : R32 x2) (m : Ms h g u)  (hl : ∀ (x2 : Int) (u : Mu) (h : Hp), P (.inl (x2, u)) → Ms h g u → R32 x2 → J mX12_close 2 0 0 post 38 [some (vr (some (g 0))), some (ii (x1)), some (ii (x2)), none] [] h) (he0 : ∀ (u : Mu) (h : Hp), P (.inr u) → Ms h g u → J mX12_close 2 0 0 post 99 [some (vr (some (g 0))), some (ii (x1)), none, none] [] h) (H : L_X12_close_38 x1 x2 u P) : J mX12_close 2 0 0 post 38 [some (vr (some (g 0))), some (ii (x1)), some (ii (x2)), none] [] h := by
  unfold L_X12_close_38 at H
  refine j_iload_n (dk dt_X12_close 22 rfl) rfl ?_
  refine j_sipush (v := Int32.ofInt 320) (dk dt_X12_close 23 rfl) (by decide) ?_
  refine jz_icmp_ge 99 (dk dt_X12_close 24 rfl) (by decide) r_x2 (by decide) H (fun H => ?_) (fun H => ?_)
  · exact j_el (he0 _ _ H m) (And.intro rfl (And.intro rfl trivial))
  · refine j_aload_n (dk dt_X12_close 25 rfl) rfl ?_
    refine jm_getA (dk dt_X12_close 26 rfl) fl_X12_144 rfl (c := 15) rfl m ?_
    refine j_iload_n (dk dt_X12_close 27 rfl) rfl ?_
    refine j_iload_n (dk dt_X12_close 28 rfl) rfl ?_
    refine j_callS3 (dk dt_X12_close 29 rfl) sl_X12_701 (T_X12_bit r_x2 r_x1 m H) rfl (by decide) (Nat.zero_le _) (Nat.zero_le _) (Nat.le_of_ble_eq_true rfl) (fun v_51 h_51 P_51 => ?_)
    obtain ⟨x_51, rfl, r_51, rfl, H⟩ := P_51
    dsimp only [rs]
    refine jz_if_eq 93 (dk dt_X12_close 30 rfl) (by decide) r_51 H (fun H => ?_) (fun H => ?_)
    · exact j_el (T_X12_close_93 r_x1 r_x2 m  hl he0 H) (And.intro rfl (And.intro rfl (And.intro rfl trivial)))
    · refine j_iconst (v := Int32.ofInt 0) (dk dt_X12_close 31 rfl) (by decide) ?_
      refine j_istore_n (dk dt_X12_close 32 rfl) (by decide) ?_
      exact j_el (T_X12_close_59 r_x1 r_x2 (by decide) m  hl he0 H) (And.intro rfl (And.intro rfl (And.intro rfl (And.intro rfl trivial))))
def F_X12_close_38  (x1 : Int) (x2 : Int) (u : Mu) (P : (Int × Mu) ⊕ ((Mu)) → Prop) : Prop :=
  lp (S := Int × Mu) (E := (Mu)) (fun q P_ => L_X12_close_38 x1 q.1 q.2 P_) (x2, u) (fun (u : Mu) => P (.inl (w32 (x1 + 1), u)))
theorem T_X12_close_38  {x1 : Int} {x2 : Int} {u : Mu} {P : (Int × Mu) ⊕ ((Mu)) → Prop} {h : Hp} {g : Nat → Nat} {post : Option Sv ⊕ String → Hp → Prop} (r_x1 : R32 x1) (r_x2 : R32 x2) (m : Ms h g u)  (hl : ∀ (x1 : Int) (u : Mu) (h : Hp), P (.inl (x1, u)) → Ms h g u → R32 x1 → J mX12_close 2 0 0 post 29 [some (vr (some (g 0))), some (ii (x1)), none, none] [] h) (he0 : ∀ (u : Mu) (h : Hp), P (.inr u) → Ms h g u → J mX12_close 2 0 0 post 105 [none, none, none, none] [] h) (H : F_X12_close_38 x1 x2 u P) : J mX12_close 2 0 0 (post) 38 [some (vr (some (g 0))), some (ii (x1)), some (ii (x2)), none] [] h := by
  unfold F_X12_close_38 at H
  refine lp_J (G := fun q => ∀ h : Hp, Ms h g (q.2) → R32 (q.1) → J mX12_close 2 0 0 (post) 38 [some (vr (some (g 0))), some (ii (x1)), some (ii ((q.1))), none] [] h) (fun q P_ hl_ he_ Hb => ?_) (x2, u) H _ m r_x2
  obtain ⟨x2, u⟩ := q
  intro h m r_x2
  refine U_X12_close_38 (P := P_) r_x1 r_x2 m  (fun x2 u h Hp m r_x2 => hl_ (x2, u) Hp h m r_x2) ?_ Hb
  · intro u h Hp m
    have H := he_ _ Hp
    refine jz_iinc (dk dt_X12_close 59 rfl) rfl ?_
    refine j_goto 29 (dk dt_X12_close 60 rfl) (by decide) ?_
    exact j_el (hl _ _ _ H m (r32_w _)) (And.intro rfl (And.intro rfl trivial))
def L_X12_close_29  (x1 : Int) (u : Mu) (P : (Int × Mu) ⊕ ((Mu)) → Prop) : Prop :=
  (if 320 ≤ x1 then P (.inr u) else F_X12_close_38 x1 0 u P)
theorem U_X12_close_29  {x1 : Int} {u : Mu} {P : (Int × Mu) ⊕ ((Mu)) → Prop} {h : Hp} {g : Nat → Nat} {post : Option Sv ⊕ String → Hp → Prop} (r_x1 : R32 x1) (m : Ms h g u)  (hl : ∀ (x1 : Int) (u : Mu) (h : Hp), P (.inl (x1, u)) → Ms h g u → R32 x1 → J mX12_close 2 0 0 post 29 [some (vr (some (g 0))), some (ii (x1)), none, none] [] h) (he0 : ∀ (u : Mu) (h : Hp), P (.inr u) → Ms h g u → J mX12_close 2 0 0 post 105 [none, none, none, none] [] h) (H : L_X12_close_29 x1 u P) : J mX12_close 2 0 0 post 29 [some (vr (some (g 0))), some (ii (x1)), none, none] [] h := by
  unfold L_X12_close_29 at H
  refine j_iload_n (dk dt_X12_close 17 rfl) rfl ?_
  refine j_sipush (v := Int32.ofInt 320) (dk dt_X12_close 18 rfl) (by decide) ?_
  refine jz_icmp_ge 105 (dk dt_X12_close 19 rfl) (by decide) r_x1 (by decide) H (fun H => ?_) (fun H => ?_)
  · exact j_el (he0 _ _ H m) trivial
  · refine j_iconst (v := Int32.ofInt 0) (dk dt_X12_close 20 rfl) (by decide) ?_
    refine j_istore_n (dk dt_X12_close 21 rfl) (by decide) ?_
    exact j_el (T_X12_close_38 r_x1 (by decide) m  hl he0 H) (And.intro rfl (And.intro rfl (And.intro rfl trivial)))
def F_X12_close_29  (x1 : Int) (u : Mu) (P : Mu → Prop) : Prop :=
  lp (S := Int × Mu) (E := (Mu)) (fun q P_ => L_X12_close_29 q.1 q.2 P_) (x1, u) (fun (u : Mu) => P u)
theorem T_X12_close_29  {x1 : Int} {u : Mu} {P : Mu → Prop} {h : Hp} {g : Nat → Nat} (r_x1 : R32 x1) (m : Ms h g u)   (H : F_X12_close_29 x1 u P) : J mX12_close 2 0 0 (nx (QMV g P)) 29 [some (vr (some (g 0))), some (ii (x1)), none, none] [] h := by
  unfold F_X12_close_29 at H
  refine lp_J (G := fun q => ∀ h : Hp, Ms h g (q.2) → R32 (q.1) → J mX12_close 2 0 0 (nx (QMV g P)) 29 [some (vr (some (g 0))), some (ii ((q.1))), none, none] [] h) (fun q P_ hl_ he_ Hb => ?_) (x1, u) H _ m r_x1
  obtain ⟨x1, u⟩ := q
  intro h m r_x1
  refine U_X12_close_29 (P := P_) r_x1 m  (fun x1 u h Hp m r_x1 => hl_ (x1, u) Hp h m r_x1) ?_ Hb
  · intro u h Hp m
    have H := he_ _ Hp
    exact j_return (dk dt_X12_close 61 rfl) rfl ⟨_, rfl, m, H⟩
def F_X12_close_2  (x1 : Int) (u : Mu) (P : Mu → Prop) : Prop :=
  lp (S := Int × Mu) (E := (Mu)) (fun q P_ => L_X12_close_2 q.1 q.2 P_) (x1, u) (fun (u : Mu) => F_X12_close_29 0 u P)
theorem T_X12_close_2  {x1 : Int} {u : Mu} {P : Mu → Prop} {h : Hp} {g : Nat → Nat} (r_x1 : R32 x1) (m : Ms h g u)   (H : F_X12_close_2 x1 u P) : J mX12_close 2 0 0 (nx (QMV g P)) 2 [some (vr (some (g 0))), some (ii (x1)), none, none] [] h := by
  unfold F_X12_close_2 at H
  refine lp_J (G := fun q => ∀ h : Hp, Ms h g (q.2) → R32 (q.1) → J mX12_close 2 0 0 (nx (QMV g P)) 2 [some (vr (some (g 0))), some (ii ((q.1))), none, none] [] h) (fun q P_ hl_ he_ Hb => ?_) (x1, u) H _ m r_x1
  obtain ⟨x1, u⟩ := q
  intro h m r_x1
  refine U_X12_close_2 (P := P_) r_x1 m  (fun x1 u h Hp m r_x1 => hl_ (x1, u) Hp h m r_x1) ?_ Hb
  · intro u h Hp m
    have H := he_ _ Hp
    refine j_iconst (v := Int32.ofInt 0) (dk dt_X12_close 15 rfl) (by decide) ?_
    refine j_istore_n (dk dt_X12_close 16 rfl) (by decide) ?_
    exact j_el (T_X12_close_29 (by decide) m   H) (And.intro rfl (And.intro rfl trivial))
def F_X12_close  (u : Mu) (P : Mu → Prop) : Prop :=
  F_X12_close_2 0 u P
theorem T_X12_close  {u : Mu} {P : Mu → Prop} {h : Hp} {g : Nat → Nat}  (m : Ms h g u)  (H : F_X12_close u P) : Con mX12_close 2 0 0 [vr (some (g 0))] h (QMV g P) := by
  refine con_of rfl (Nat.le_of_ble_eq_true rfl) (by decide) ?_
  show J mX12_close 2 0 0 _ 0 [some (vr (some (g 0))), none, none, none] [] h
  unfold F_X12_close at H
  refine j_iconst (v := Int32.ofInt 0) (dk dt_X12_close 0 rfl) (by decide) ?_
  refine j_istore_n (dk dt_X12_close 1 rfl) (by decide) ?_
  exact j_el (T_X12_close_2 (by decide) m   H) (And.intro rfl (And.intro rfl trivial))
def F_X12_error  (x1 : Int) (x2 : Int) (u : Mu) (P : Mu → Prop) : Prop :=
  (0 ≤ x1 ∧ x1 < 200 ∧ (∀ u_6, u_6 = uI u 66 x1 4 → (0 ≤ x1 ∧ x1 < 200 ∧ (∀ u_14, u_14 = uG u_6 67 x1 x2 → P u_14))))
theorem T_X12_error  {x1 : Int} {x2 : Int} {u : Mu} {P : Mu → Prop} {h : Hp} {g : Nat → Nat} (r_x1 : R32 x1) (r_x2 : R32 x2) (m : Ms h g u)  (H : F_X12_error x1 x2 u P) : Con mX12_error 1 0 0 [vr (some (g 0)), ii (x1), ii (x2)] h (QMV g P) := by
  refine con_of rfl (Nat.le_of_ble_eq_true rfl) (by decide) ?_
  show J mX12_error 1 0 0 _ 0 [some (vr (some (g 0))), some (ii (x1)), some (ii (x2))] [] h
  unfold F_X12_error at H
  refine j_aload_n (dk dt_X12_error 0 rfl) rfl ?_
  refine jm_getA (dk dt_X12_error 1 rfl) fl_X12_126 rfl (c := 14) rfl m ?_
  refine j_iload_n (dk dt_X12_error 2 rfl) rfl ?_
  refine j_iconst (v := Int32.ofInt 4) (dk dt_X12_error 3 rfl) (by decide) ?_
  obtain ⟨p_6, q_6, H⟩ := H
  refine jm_iast (dk dt_X12_error 4 rfl) rfl rfl m p_6 q_6 (by decide) (fun h_6 m_6 => ?_)
  replace H := H _ rfl
  refine j_aload_n (dk dt_X12_error 5 rfl) rfl ?_
  refine jm_getA (dk dt_X12_error 6 rfl) fl_X12_129 rfl (c := 15) rfl m_6 ?_
  refine j_iload_n (dk dt_X12_error 7 rfl) rfl ?_
  refine j_iload_n (dk dt_X12_error 8 rfl) rfl ?_
  refine jz_i2l (dk dt_X12_error 9 rfl) r_x2 ?_
  obtain ⟨p_14, q_14, H⟩ := H
  refine jm_last (dk dt_X12_error 10 rfl) rfl rfl m_6 p_14 q_14 (r64_3 r_x2) (fun h_14 m_14 => ?_)
  replace H := H _ rfl
  exact j_return (dk dt_X12_error 11 rfl) rfl ⟨_, rfl, m_14, H⟩
def F_X12_come_99  (u : Mu) (P : Mu → Prop) : Prop :=
  P u
theorem T_X12_come_99  {u : Mu} {P : Mu → Prop} {h : Hp} {g : Nat → Nat}  (m : Ms h g u)   (H : F_X12_come_99 u P) : J mX12_come 2 0 0 (nx (QMV g P)) 99 [none, none, none] [] h := by
  unfold F_X12_come_99 at H
  exact j_return (dk dt_X12_come 50 rfl) rfl ⟨_, rfl, m, H⟩
def F_X12_come  (x1 : Int) (x2 : Int) (u : Mu) (P : Mu → Prop) : Prop :=
  (if x1 = 31 then F_X12_truth x2 (mI u 0 79) u (fun u_12 => F_X12_come_99 u_12 P) else (if x1 = 32 then F_X12_truth x2 (mI u 0 80) u (fun u_30 => F_X12_come_99 u_30 P) else (if x1 = 36 then F_X12_number x2 (mI u 0 76) u (fun u_49 => F_X12_come_99 u_49 P) else (if x1 = 33 then F_X12_number x2 (mG u 0 77) u (fun u_67 => F_X12_come_99 u_67 P) else (if mI u 0 76 = 0 then F_X12_error x2 7 u (fun u_84 => F_X12_come_99 u_84 P) else F_X12_number x2 (mG u 0 78) u (fun u_96 => F_X12_come_99 u_96 P))))))
theorem T_X12_come  {x1 : Int} {x2 : Int} {u : Mu} {P : Mu → Prop} {h : Hp} {g : Nat → Nat} (r_x1 : R32 x1) (r_x2 : R32 x2) (m : Ms h g u)  (H : F_X12_come x1 x2 u P) : Con mX12_come 2 0 0 [vr (some (g 0)), ii (x1), ii (x2)] h (QMV g P) := by
  refine con_of rfl (Nat.le_of_ble_eq_true rfl) (by decide) ?_
  show J mX12_come 2 0 0 _ 0 [some (vr (some (g 0))), some (ii (x1)), some (ii (x2))] [] h
  unfold F_X12_come at H
  refine j_iload_n (dk dt_X12_come 0 rfl) rfl ?_
  refine j_bipush (v := Int32.ofInt 31) (dk dt_X12_come 1 rfl) (by decide) ?_
  refine jz_icmp_ne 18 (dk dt_X12_come 2 rfl) (by decide) r_x1 (by decide) H (fun H => ?_) (fun H => ?_)
  · refine j_aload_n (dk dt_X12_come 3 rfl) rfl ?_
    refine j_iload_n (dk dt_X12_come 4 rfl) rfl ?_
    refine j_aload_n (dk dt_X12_come 5 rfl) rfl ?_
    refine jm_getI (kz := 79) (dk dt_X12_come 6 rfl) fl_X12_671 rfl rfl m ?_
    refine jz_callV2 (dk dt_X12_come 7 rfl) vl_X12_544 rfl (T_X12_truth r_x2 (m.2.1.1 _ _) m H) m.1.1 rfl (by decide) (Nat.zero_le _) (Nat.zero_le _) (Nat.le_of_ble_eq_true rfl) (fun v_12 h_12 P_12 => ?_)
    obtain ⟨u_12, rfl, m_12, H⟩ := P_12
    dsimp only [rs]
    refine j_goto 99 (dk dt_X12_come 8 rfl) (by decide) ?_
    exact j_el (T_X12_come_99  m_12   H) trivial
  · refine j_iload_n (dk dt_X12_come 9 rfl) rfl ?_
    refine j_bipush (v := Int32.ofInt 32) (dk dt_X12_come 10 rfl) (by decide) ?_
    refine jz_icmp_ne 36 (dk dt_X12_come 11 rfl) (by decide) r_x1 (by decide) H (fun H => ?_) (fun H => ?_)
    · refine j_aload_n (dk dt_X12_come 12 rfl) rfl ?_
      refine j_iload_n (dk dt_X12_come 13 rfl) rfl ?_
      refine j_aload_n (dk dt_X12_come 14 rfl) rfl ?_
      refine jm_getI (kz := 80) (dk dt_X12_come 15 rfl) fl_X12_674 rfl rfl m ?_
      refine jz_callV2 (dk dt_X12_come 16 rfl) vl_X12_544 rfl (T_X12_truth r_x2 (m.2.1.1 _ _) m H) m.1.1 rfl (by decide) (Nat.zero_le _) (Nat.zero_le _) (Nat.le_of_ble_eq_true rfl) (fun v_30 h_30 P_30 => ?_)
      obtain ⟨u_30, rfl, m_30, H⟩ := P_30
      dsimp only [rs]
      refine j_goto 99 (dk dt_X12_come 17 rfl) (by decide) ?_
      exact j_el (T_X12_come_99  m_30   H) trivial
    · refine j_iload_n (dk dt_X12_come 18 rfl) rfl ?_
      refine j_bipush (v := Int32.ofInt 36) (dk dt_X12_come 19 rfl) (by decide) ?_
      refine jz_icmp_ne 55 (dk dt_X12_come 20 rfl) (by decide) r_x1 (by decide) H (fun H => ?_) (fun H => ?_)
      · refine j_aload_n (dk dt_X12_come 21 rfl) rfl ?_
        refine j_iload_n (dk dt_X12_come 22 rfl) rfl ?_
        refine j_aload_n (dk dt_X12_come 23 rfl) rfl ?_
        refine jm_getI (kz := 76) (dk dt_X12_come 24 rfl) fl_X12_665 rfl rfl m ?_
        refine jz_i2l (dk dt_X12_come 25 rfl) (m.2.1.1 _ _) ?_
        refine jz_callV2 (dk dt_X12_come 26 rfl) vl_X12_537 rfl (T_X12_number r_x2 (r64_3 (m.2.1.1 _ _)) m H) m.1.1 rfl (by decide) (Nat.zero_le _) (Nat.zero_le _) (Nat.le_of_ble_eq_true rfl) (fun v_49 h_49 P_49 => ?_)
        obtain ⟨u_49, rfl, m_49, H⟩ := P_49
        dsimp only [rs]
        refine j_goto 99 (dk dt_X12_come 27 rfl) (by decide) ?_
        exact j_el (T_X12_come_99  m_49   H) trivial
      · refine j_iload_n (dk dt_X12_come 28 rfl) rfl ?_
        refine j_bipush (v := Int32.ofInt 33) (dk dt_X12_come 29 rfl) (by decide) ?_
        refine jz_icmp_ne 73 (dk dt_X12_come 30 rfl) (by decide) r_x1 (by decide) H (fun H => ?_) (fun H => ?_)
        · refine j_aload_n (dk dt_X12_come 31 rfl) rfl ?_
          refine j_iload_n (dk dt_X12_come 32 rfl) rfl ?_
          refine j_aload_n (dk dt_X12_come 33 rfl) rfl ?_
          refine jm_getG (kz := 77) (dk dt_X12_come 34 rfl) fl_X12_661 rfl rfl m ?_
          refine jz_callV2 (dk dt_X12_come 35 rfl) vl_X12_537 rfl (T_X12_number r_x2 (m.2.1.2.1 _ _) m H) m.1.1 rfl (by decide) (Nat.zero_le _) (Nat.zero_le _) (Nat.le_of_ble_eq_true rfl) (fun v_67 h_67 P_67 => ?_)
          obtain ⟨u_67, rfl, m_67, H⟩ := P_67
          dsimp only [rs]
          refine j_goto 99 (dk dt_X12_come 36 rfl) (by decide) ?_
          exact j_el (T_X12_come_99  m_67   H) trivial
        · refine j_aload_n (dk dt_X12_come 37 rfl) rfl ?_
          refine jm_getI (kz := 76) (dk dt_X12_come 38 rfl) fl_X12_665 rfl rfl m ?_
          refine jz_if_ne 90 (dk dt_X12_come 39 rfl) (by decide) (m.2.1.1 _ _) H (fun H => ?_) (fun H => ?_)
          · refine j_aload_n (dk dt_X12_come 40 rfl) rfl ?_
            refine j_iload_n (dk dt_X12_come 41 rfl) rfl ?_
            refine j_bipush (v := Int32.ofInt 7) (dk dt_X12_come 42 rfl) (by decide) ?_
            refine jz_callV2 (dk dt_X12_come 43 rfl) vl_X12_541 rfl (T_X12_error r_x2 (by decide) m H) m.1.1 rfl (by decide) (Nat.zero_le _) (Nat.zero_le _) (Nat.le_of_ble_eq_true rfl) (fun v_84 h_84 P_84 => ?_)
            obtain ⟨u_84, rfl, m_84, H⟩ := P_84
            dsimp only [rs]
            refine j_goto 99 (dk dt_X12_come 44 rfl) (by decide) ?_
            exact j_el (T_X12_come_99  m_84   H) trivial
          · refine j_aload_n (dk dt_X12_come 45 rfl) rfl ?_
            refine j_iload_n (dk dt_X12_come 46 rfl) rfl ?_
            refine j_aload_n (dk dt_X12_come 47 rfl) rfl ?_
            refine jm_getG (kz := 78) (dk dt_X12_come 48 rfl) fl_X12_668 rfl rfl m ?_
            refine jz_callV2 (dk dt_X12_come 49 rfl) vl_X12_537 rfl (T_X12_number r_x2 (m.2.1.2.1 _ _) m H) m.1.1 rfl (by decide) (Nat.zero_le _) (Nat.zero_le _) (Nat.le_of_ble_eq_true rfl) (fun v_96 h_96 P_96 => ?_)
            obtain ⟨u_96, rfl, m_96, H⟩ := P_96
            dsimp only [rs]
            exact j_el (T_X12_come_99  m_96   H) trivial
def F_X12_isChanged_106  (x1 : Int) (x2 : Int) (x3 : Int) (x4 : Int) (x5 : Int) (u : Mu) (P : Int ⊕ ((Unit) ⊕ (Unit) ⊕ (Unit)) → Prop) : Prop :=
  P (.inl (w32 (x5 + 1)))
theorem T_X12_isChanged_106  {x1 : Int} {x2 : Int} {x3 : Int} {x4 : Int} {x5 : Int} {u : Mu} {P : Int ⊕ ((Unit) ⊕ (Unit) ⊕ (Unit)) → Prop} {h : Hp} {g : Nat → Nat} {post : Option Sv ⊕ String → Hp → Prop} (r_x1 : R32 x1) (r_x2 : R32 x2) (r_x3 : R32 x3) (r_x4 : R32 x4) (r_x5 : R32 x5) (m : Ms h g u)  (hl : ∀ (x5 : Int), P (.inl x5) → R32 x5 → J mX12_isChanged 4 0 0 post 3 [some (vr (some (g 0))), some (ii (x1)), some (ii (x2)), some (ii (x3)), some (ii (x4)), some (ii (x5)), none, none, none] [] h) (he0 : P (.inr (.inl ())) → J mX12_isChanged 4 0 0 post 112 [none, none, none, none, none, none, none, none, none] [] h) (he1 : P (.inr (.inr (.inl ()))) → J mX12_isChanged 4 0 0 post 90 [none, none, none, none, none, none, none, none, none] [] h) (he2 : P (.inr (.inr (.inr ()))) → J mX12_isChanged 4 0 0 post 104 [none, none, none, none, none, none, none, none, none] [] h) (H : F_X12_isChanged_106 x1 x2 x3 x4 x5 u P) : J mX12_isChanged 4 0 0 (post) 106 [some (vr (some (g 0))), some (ii (x1)), some (ii (x2)), some (ii (x3)), some (ii (x4)), some (ii (x5)), none, none, none] [] h := by
  unfold F_X12_isChanged_106 at H
  refine jz_iinc (dk dt_X12_isChanged 58 rfl) rfl ?_
  refine j_goto 3 (dk dt_X12_isChanged 59 rfl) (by decide) ?_
  exact j_el (hl _ H (r32_w _)) (And.intro rfl (And.intro rfl (And.intro rfl (And.intro rfl (And.intro rfl (And.intro rfl trivial))))))
def F_X12_isChanged_78  (x1 : Int) (x2 : Int) (x3 : Int) (x4 : Int) (x5 : Int) (x7 : Int) (s0 : Int) (u : Mu) (P : Int ⊕ ((Unit) ⊕ (Unit) ⊕ (Unit)) → Prop) : Prop :=
  (if 0 ≤ s0 then F_X12_alike x7 s0 u (fun x_98 => (if x_98 = 0 then P (.inr (.inr (.inr ()))) else F_X12_isChanged_106 x1 x2 x3 x4 x5 u P)) else (if x7 = 0 then F_X12_isChanged_106 x1 x2 x3 x4 x5 u P else P (.inr (.inr (.inl ())))))
theorem T_X12_isChanged_78  {x1 : Int} {x2 : Int} {x3 : Int} {x4 : Int} {x5 : Int} {x7 : Int} {s0 : Int} {u : Mu} {P : Int ⊕ ((Unit) ⊕ (Unit) ⊕ (Unit)) → Prop} {h : Hp} {g : Nat → Nat} {post : Option Sv ⊕ String → Hp → Prop} (r_x1 : R32 x1) (r_x2 : R32 x2) (r_x3 : R32 x3) (r_x4 : R32 x4) (r_x5 : R32 x5) (r_x7 : R32 x7) (r_s0 : R32 s0) (m : Ms h g u)  (hl : ∀ (x5 : Int), P (.inl x5) → R32 x5 → J mX12_isChanged 4 0 0 post 3 [some (vr (some (g 0))), some (ii (x1)), some (ii (x2)), some (ii (x3)), some (ii (x4)), some (ii (x5)), none, none, none] [] h) (he0 : P (.inr (.inl ())) → J mX12_isChanged 4 0 0 post 112 [none, none, none, none, none, none, none, none, none] [] h) (he1 : P (.inr (.inr (.inl ()))) → J mX12_isChanged 4 0 0 post 90 [none, none, none, none, none, none, none, none, none] [] h) (he2 : P (.inr (.inr (.inr ()))) → J mX12_isChanged 4 0 0 post 104 [none, none, none, none, none, none, none, none, none] [] h) (H : F_X12_isChanged_78 x1 x2 x3 x4 x5 x7 s0 u P) : J mX12_isChanged 4 0 0 (post) 78 [some (vr (some (g 0))), some (ii (x1)), some (ii (x2)), some (ii (x3)), some (ii (x4)), some (ii (x5)), none, some (ii (x7)), none] [ii (s0)] h := by
  unfold F_X12_isChanged_78 at H
  refine j_istore (dk dt_X12_isChanged 45 rfl) (by decide) ?_
  refine j_iload (dk dt_X12_isChanged 46 rfl) rfl ?_
  refine jz_if_ge 93 (dk dt_X12_isChanged 47 rfl) (by decide) r_s0 H (fun H => ?_) (fun H => ?_)
  · refine j_aload_n (dk dt_X12_isChanged 51 rfl) rfl ?_
    refine j_iload (dk dt_X12_isChanged 52 rfl) rfl ?_
    refine j_iload (dk dt_X12_isChanged 53 rfl) rfl ?_
    refine jz_callV2 (dk dt_X12_isChanged 54 rfl) vl_X12_865 rfl (T_X12_alike r_x7 r_s0 m H) m.1.1 rfl (by decide) (Nat.zero_le _) (Nat.zero_le _) (Nat.le_of_ble_eq_true rfl) (fun v_98 h_98 P_98 => ?_)
    obtain ⟨x_98, rfl, r_98, rfl, H⟩ := P_98
    dsimp only [rs]
    refine jz_if_ne 106 (dk dt_X12_isChanged 55 rfl) (by decide) r_98 H (fun H => ?_) (fun H => ?_)
    · exact j_el (he2  H ) trivial
    · exact j_el (T_X12_isChanged_106 r_x1 r_x2 r_x3 r_x4 r_x5 m  hl he0 he1 he2 H) (And.intro rfl (And.intro rfl (And.intro rfl (And.intro rfl (And.intro rfl (And.intro rfl trivial))))))
  · refine j_iload (dk dt_X12_isChanged 48 rfl) rfl ?_
    refine jz_if_eq 106 (dk dt_X12_isChanged 49 rfl) (by decide) r_x7 H (fun H => ?_) (fun H => ?_)
    · exact j_el (T_X12_isChanged_106 r_x1 r_x2 r_x3 r_x4 r_x5 m  hl he0 he1 he2 H) (And.intro rfl (And.intro rfl (And.intro rfl (And.intro rfl (And.intro rfl (And.intro rfl trivial))))))
    · exact j_el (he1  H ) trivial
def F_X12_isChanged_51  (x1 : Int) (x2 : Int) (x3 : Int) (x4 : Int) (x5 : Int) (x6 : Int) (s0 : Int) (u : Mu) (P : Int ⊕ ((Unit) ⊕ (Unit) ⊕ (Unit)) → Prop) : Prop :=
  (if x2 = 0 then F_X12_contentOf x4 x3 x6 u (fun x_63 => F_X12_isChanged_78 x1 x2 x3 x4 x5 s0 x_63 u P) else F_X12_contentOf x4 x6 x3 u (fun x_75 => F_X12_isChanged_78 x1 x2 x3 x4 x5 s0 x_75 u P))
theorem T_X12_isChanged_51  {x1 : Int} {x2 : Int} {x3 : Int} {x4 : Int} {x5 : Int} {x6 : Int} {s0 : Int} {u : Mu} {P : Int ⊕ ((Unit) ⊕ (Unit) ⊕ (Unit)) → Prop} {h : Hp} {g : Nat → Nat} {post : Option Sv ⊕ String → Hp → Prop} (r_x1 : R32 x1) (r_x2 : R32 x2) (r_x3 : R32 x3) (r_x4 : R32 x4) (r_x5 : R32 x5) (r_x6 : R32 x6) (r_s0 : R32 s0) (m : Ms h g u)  (hl : ∀ (x5 : Int), P (.inl x5) → R32 x5 → J mX12_isChanged 4 0 0 post 3 [some (vr (some (g 0))), some (ii (x1)), some (ii (x2)), some (ii (x3)), some (ii (x4)), some (ii (x5)), none, none, none] [] h) (he0 : P (.inr (.inl ())) → J mX12_isChanged 4 0 0 post 112 [none, none, none, none, none, none, none, none, none] [] h) (he1 : P (.inr (.inr (.inl ()))) → J mX12_isChanged 4 0 0 post 90 [none, none, none, none, none, none, none, none, none] [] h) (he2 : P (.inr (.inr (.inr ()))) → J mX12_isChanged 4 0 0 post 104 [none, none, none, none, none, none, none, none, none] [] h) (H : F_X12_isChanged_51 x1 x2 x3 x4 x5 x6 s0 u P) : J mX12_isChanged 4 0 0 (post) 51 [some (vr (some (g 0))), some (ii (x1)), some (ii (x2)), some (ii (x3)), some (ii (x4)), some (ii (x5)), some (ii (x6)), none, none] [ii (s0)] h := by
  unfold F_X12_isChanged_51 at H
  refine j_istore (dk dt_X12_isChanged 31 rfl) (by decide) ?_
  refine j_iload_n (dk dt_X12_isChanged 32 rfl) rfl ?_
  refine jz_if_ne 69 (dk dt_X12_isChanged 33 rfl) (by decide) r_x2 H (fun H => ?_) (fun H => ?_)
  · refine j_aload_n (dk dt_X12_isChanged 34 rfl) rfl ?_
    refine j_iload (dk dt_X12_isChanged 35 rfl) rfl ?_
    refine j_iload_n (dk dt_X12_isChanged 36 rfl) rfl ?_
    refine j_iload (dk dt_X12_isChanged 37 rfl) rfl ?_
    refine jz_callV3 (dk dt_X12_isChanged 38 rfl) vl_X12_887 rfl (T_X12_contentOf r_x4 r_x3 r_x6 m H) m.1.1 rfl (by decide) (Nat.zero_le _) (Nat.zero_le _) (Nat.le_of_ble_eq_true rfl) (fun v_63 h_63 P_63 => ?_)
    obtain ⟨x_63, rfl, r_63, rfl, H⟩ := P_63
    dsimp only [rs]
    refine j_goto 78 (dk dt_X12_isChanged 39 rfl) (by decide) ?_
    exact j_el (T_X12_isChanged_78 r_x1 r_x2 r_x3 r_x4 r_x5 r_s0 r_63 m  hl he0 he1 he2 H) (And.intro rfl (And.intro rfl (And.intro rfl (And.intro rfl (And.intro rfl (And.intro rfl (And.intro rfl trivial)))))))
  · refine j_aload_n (dk dt_X12_isChanged 40 rfl) rfl ?_
    refine j_iload (dk dt_X12_isChanged 41 rfl) rfl ?_
    refine j_iload (dk dt_X12_isChanged 42 rfl) rfl ?_
    refine j_iload_n (dk dt_X12_isChanged 43 rfl) rfl ?_
    refine jz_callV3 (dk dt_X12_isChanged 44 rfl) vl_X12_887 rfl (T_X12_contentOf r_x4 r_x6 r_x3 m H) m.1.1 rfl (by decide) (Nat.zero_le _) (Nat.zero_le _) (Nat.le_of_ble_eq_true rfl) (fun v_75 h_75 P_75 => ?_)
    obtain ⟨x_75, rfl, r_75, rfl, H⟩ := P_75
    dsimp only [rs]
    exact j_el (T_X12_isChanged_78 r_x1 r_x2 r_x3 r_x4 r_x5 r_s0 r_75 m  hl he0 he1 he2 H) (And.intro rfl (And.intro rfl (And.intro rfl (And.intro rfl (And.intro rfl (And.intro rfl (And.intro rfl trivial)))))))
def L_X12_isChanged_3  (x1 : Int) (x2 : Int) (x3 : Int) (x4 : Int) (x5 : Int) (u : Mu) (P : Int ⊕ ((Unit) ⊕ (Unit) ⊕ (Unit)) → Prop) : Prop :=
  F_X12_linesOf x1 (w32 (1 - x2)) u (fun x_10 => (if x_10 ≤ x5 then P (.inr (.inl ())) else F_X12_lineAt x1 (w32 (1 - x2)) x5 u (fun x_23 => (if x2 = 0 then F_X12_contentOf x1 x3 x_23 u (fun x_37 => F_X12_isChanged_51 x1 x2 x3 x4 x5 x_23 x_37 u P) else F_X12_contentOf x1 x_23 x3 u (fun x_48 => F_X12_isChanged_51 x1 x2 x3 x4 x5 x_23 x_48 u P)))))
theorem U_X12_isChanged_3  {x1 : Int} {x2 : Int} {x3 : Int} {x4 : Int} {x5 : Int} {u : Mu} {P : Int ⊕ ((Unit) ⊕ (Unit) ⊕ (Unit)) → Prop} {h : Hp} {g : Nat → Nat} {post : Option Sv ⊕ String → Hp → Prop} (r_x1 : R32 x1) (r_x2 : R32 x2) (r_x3 : R32 x3) (r_x4 : R32 x4) (r_x5 : R32 x5) (m : Ms h g u)  (hl : ∀ (x5 : Int), P (.inl x5) → R32 x5 → J mX12_isChanged 4 0 0 post 3 [some (vr (some (g 0))), some (ii (x1)), some (ii (x2)), some (ii (x3)), some (ii (x4)), some (ii (x5)), none, none, none] [] h) (he0 : P (.inr (.inl ())) → J mX12_isChanged 4 0 0 post 112 [none, none, none, none, none, none, none, none, none] [] h) (he1 : P (.inr (.inr (.inl ()))) → J mX12_isChanged 4 0 0 post 90 [none, none, none, none, none, none, none, none, none] [] h) (he2 : P (.inr (.inr (.inr ()))) → J mX12_isChanged 4 0 0 post 104 [none, none, none, none, none, none, none, none, none] [] h) (H : L_X12_isChanged_3 x1 x2 x3 x4 x5 u P) : J mX12_isChanged 4 0 0 post 3 [some (vr (some (g 0))), some (ii (x1)), some (ii (x2)), some (ii (x3)), some (ii (x4)), some (ii (x5)), none, none, none] [] h := by
  unfold L_X12_isChanged_3 at H
  refine j_iload (dk dt_X12_isChanged 2 rfl) rfl ?_
  refine j_aload_n (dk dt_X12_isChanged 3 rfl) rfl ?_
  refine j_iload_n (dk dt_X12_isChanged 4 rfl) rfl ?_
  refine j_iconst (v := Int32.ofInt 1) (dk dt_X12_isChanged 5 rfl) (by decide) ?_
  refine j_iload_n (dk dt_X12_isChanged 6 rfl) rfl ?_
  refine jz_isub (dk dt_X12_isChanged 7 rfl) ?_
  refine jz_callV2 (dk dt_X12_isChanged 8 rfl) vl_X12_209 rfl (T_X12_linesOf r_x1 (r32_w _) m H) m.1.1 rfl (by decide) (Nat.zero_le _) (Nat.zero_le _) (Nat.le_of_ble_eq_true rfl) (fun v_10 h_10 P_10 => ?_)
  obtain ⟨x_10, rfl, r_10, rfl, H⟩ := P_10
  dsimp only [rs]
  refine jz_icmp_ge 112 (dk dt_X12_isChanged 9 rfl) (by decide) r_x5 r_10 H (fun H => ?_) (fun H => ?_)
  · exact j_el (he0  H ) trivial
  · refine j_aload_n (dk dt_X12_isChanged 10 rfl) rfl ?_
    refine j_iload_n (dk dt_X12_isChanged 11 rfl) rfl ?_
    refine j_iconst (v := Int32.ofInt 1) (dk dt_X12_isChanged 12 rfl) (by decide) ?_
    refine j_iload_n (dk dt_X12_isChanged 13 rfl) rfl ?_
    refine jz_isub (dk dt_X12_isChanged 14 rfl) ?_
    refine j_iload (dk dt_X12_isChanged 15 rfl) rfl ?_
    refine jz_callV3 (dk dt_X12_isChanged 16 rfl) vl_X12_213 rfl (T_X12_lineAt r_x1 (r32_w _) r_x5 m H) m.1.1 rfl (by decide) (Nat.zero_le _) (Nat.zero_le _) (Nat.le_of_ble_eq_true rfl) (fun v_23 h_23 P_23 => ?_)
    obtain ⟨x_23, rfl, r_23, rfl, H⟩ := P_23
    dsimp only [rs]
    refine j_istore (dk dt_X12_isChanged 17 rfl) (by decide) ?_
    refine j_iload_n (dk dt_X12_isChanged 18 rfl) rfl ?_
    refine jz_if_ne 43 (dk dt_X12_isChanged 19 rfl) (by decide) r_x2 H (fun H => ?_) (fun H => ?_)
    · refine j_aload_n (dk dt_X12_isChanged 20 rfl) rfl ?_
      refine j_iload_n (dk dt_X12_isChanged 21 rfl) rfl ?_
      refine j_iload_n (dk dt_X12_isChanged 22 rfl) rfl ?_
      refine j_iload (dk dt_X12_isChanged 23 rfl) rfl ?_
      refine jz_callV3 (dk dt_X12_isChanged 24 rfl) vl_X12_887 rfl (T_X12_contentOf r_x1 r_x3 r_23 m H) m.1.1 rfl (by decide) (Nat.zero_le _) (Nat.zero_le _) (Nat.le_of_ble_eq_true rfl) (fun v_37 h_37 P_37 => ?_)
      obtain ⟨x_37, rfl, r_37, rfl, H⟩ := P_37
      dsimp only [rs]
      refine j_goto 51 (dk dt_X12_isChanged 25 rfl) (by decide) ?_
      exact j_el (T_X12_isChanged_51 r_x1 r_x2 r_x3 r_x4 r_x5 r_23 r_37 m  hl he0 he1 he2 H) (And.intro rfl (And.intro rfl (And.intro rfl (And.intro rfl (And.intro rfl (And.intro rfl (And.intro rfl trivial)))))))
    · refine j_aload_n (dk dt_X12_isChanged 26 rfl) rfl ?_
      refine j_iload_n (dk dt_X12_isChanged 27 rfl) rfl ?_
      refine j_iload (dk dt_X12_isChanged 28 rfl) rfl ?_
      refine j_iload_n (dk dt_X12_isChanged 29 rfl) rfl ?_
      refine jz_callV3 (dk dt_X12_isChanged 30 rfl) vl_X12_887 rfl (T_X12_contentOf r_x1 r_23 r_x3 m H) m.1.1 rfl (by decide) (Nat.zero_le _) (Nat.zero_le _) (Nat.le_of_ble_eq_true rfl) (fun v_48 h_48 P_48 => ?_)
      obtain ⟨x_48, rfl, r_48, rfl, H⟩ := P_48
      dsimp only [rs]
      exact j_el (T_X12_isChanged_51 r_x1 r_x2 r_x3 r_x4 r_x5 r_23 r_48 m  hl he0 he1 he2 H) (And.intro rfl (And.intro rfl (And.intro rfl (And.intro rfl (And.intro rfl (And.intro rfl (And.intro rfl trivial)))))))
def F_X12_isChanged_104  (u : Mu) (P : Int → Prop) : Prop :=
  P 1
theorem T_X12_isChanged_104  {u : Mu} {P : Int → Prop} {h : Hp} {g : Nat → Nat}  (m : Ms h g u)   (H : F_X12_isChanged_104 u P) : J mX12_isChanged 4 0 0 (nx (QPI h P)) 104 [none, none, none, none, none, none, none, none, none] [] h := by
  unfold F_X12_isChanged_104 at H
  refine j_iconst (v := Int32.ofInt 1) (dk dt_X12_isChanged 56 rfl) (by decide) ?_
  exact j_ireturn (dk dt_X12_isChanged 57 rfl) rfl (nar_z (by decide)) ⟨_, rfl, (by decide), rfl, H⟩
def F_X12_isChanged_3  (x1 : Int) (x2 : Int) (x3 : Int) (x4 : Int) (x5 : Int) (u : Mu) (P : Int → Prop) : Prop :=
  lp (S := Int) (E := (Unit) ⊕ (Unit) ⊕ (Unit)) (fun q P_ => L_X12_isChanged_3 x1 x2 x3 x4 q u P_) x5 (fun e => match e with | (.inl _) => P 0 | (.inr (.inl _)) => F_X12_isChanged_104 u P | (.inr (.inr _)) => F_X12_isChanged_104 u P)
theorem T_X12_isChanged_3  {x1 : Int} {x2 : Int} {x3 : Int} {x4 : Int} {x5 : Int} {u : Mu} {P : Int → Prop} {h : Hp} {g : Nat → Nat} (r_x1 : R32 x1) (r_x2 : R32 x2) (r_x3 : R32 x3) (r_x4 : R32 x4) (r_x5 : R32 x5) (m : Ms h g u)   (H : F_X12_isChanged_3 x1 x2 x3 x4 x5 u P) : J mX12_isChanged 4 0 0 (nx (QPI h P)) 3 [some (vr (some (g 0))), some (ii (x1)), some (ii (x2)), some (ii (x3)), some (ii (x4)), some (ii (x5)), none, none, none] [] h := by
  unfold F_X12_isChanged_3 at H
  refine lp_J (G := fun q => R32 (q) → J mX12_isChanged 4 0 0 (nx (QPI h P)) 3 [some (vr (some (g 0))), some (ii (x1)), some (ii (x2)), some (ii (x3)), some (ii (x4)), some (ii ((q))), none, none, none] [] h) (fun x5 P_ hl_ he_ Hb => ?_) x5 H r_x5
  intro r_x5
  refine U_X12_isChanged_3 (P := P_) r_x1 r_x2 r_x3 r_x4 r_x5 m  (fun x5 Hp r_x5 => hl_ x5 Hp r_x5) ?_ ?_ ?_ Hb
  · intro Hp
    have H := he_ _ Hp
    refine j_iconst (v := Int32.ofInt 0) (dk dt_X12_isChanged 60 rfl) (by decide) ?_
    exact j_ireturn (dk dt_X12_isChanged 61 rfl) rfl (nar_z (by decide)) ⟨_, rfl, (by decide), rfl, H⟩
  · intro Hp
    have H := he_ _ Hp
    refine j_goto 104 (dk dt_X12_isChanged 50 rfl) (by decide) ?_
    exact j_el (T_X12_isChanged_104  m   H) trivial
  · intro Hp
    have H := he_ _ Hp
    exact j_el (T_X12_isChanged_104  m   H) trivial
def F_X12_isChanged  (x1 : Int) (x2 : Int) (x3 : Int) (x4 : Int) (u : Mu) (P : Int → Prop) : Prop :=
  F_X12_isChanged_3 x1 x2 x3 x4 0 u P
theorem T_X12_isChanged  {x1 : Int} {x2 : Int} {x3 : Int} {x4 : Int} {u : Mu} {P : Int → Prop} {h : Hp} {g : Nat → Nat} (r_x1 : R32 x1) (r_x2 : R32 x2) (r_x3 : R32 x3) (r_x4 : R32 x4) (m : Ms h g u)  (H : F_X12_isChanged x1 x2 x3 x4 u P) : Con mX12_isChanged 4 0 0 [vr (some (g 0)), ii (x1), ii (x2), ii (x3), ii (x4)] h (QPI h P) := by
  refine con_of rfl (Nat.le_of_ble_eq_true rfl) (by decide) ?_
  show J mX12_isChanged 4 0 0 _ 0 [some (vr (some (g 0))), some (ii (x1)), some (ii (x2)), some (ii (x3)), some (ii (x4)), none, none, none, none] [] h
  unfold F_X12_isChanged at H
  refine j_iconst (v := Int32.ofInt 0) (dk dt_X12_isChanged 0 rfl) (by decide) ?_
  refine j_istore (dk dt_X12_isChanged 1 rfl) (by decide) ?_
  exact j_el (T_X12_isChanged_3 r_x1 r_x2 r_x3 r_x4 (by decide) m   H) (And.intro rfl (And.intro rfl (And.intro rfl (And.intro rfl (And.intro rfl (And.intro rfl trivial))))))
def F_X12_isIn_41  (s0 : Int) (u : Mu) (P : Int → Prop) : Prop :=
  (Z1 s0 ∧ P s0)
theorem T_X12_isIn_41  {s0 : Int} {u : Mu} {P : Int → Prop} {h : Hp} {g : Nat → Nat} (r_s0 : R32 s0) (m : Ms h g u)   (H : F_X12_isIn_41 s0 u P) : J mX12_isIn 5 0 0 (nx (QPI h P)) 41 [none, none, none, none, none, none] [ii (s0)] h := by
  unfold F_X12_isIn_41 at H
  obtain ⟨hz_, H⟩ := H
  exact j_ireturn (dk dt_X12_isIn 22 rfl) rfl (nar_z hz_) ⟨_, rfl, r_s0, rfl, H⟩
def F_X12_isIn_36  (u : Mu) (P : Int → Prop) : Prop :=
  F_X12_isIn_41 1 u P
theorem T_X12_isIn_36  {u : Mu} {P : Int → Prop} {h : Hp} {g : Nat → Nat}  (m : Ms h g u)   (H : F_X12_isIn_36 u P) : J mX12_isIn 5 0 0 (nx (QPI h P)) 36 [none, none, none, none, none, none] [] h := by
  unfold F_X12_isIn_36 at H
  refine j_iconst (v := Int32.ofInt 1) (dk dt_X12_isIn 19 rfl) (by decide) ?_
  refine j_goto 41 (dk dt_X12_isIn 20 rfl) (by decide) ?_
  exact j_el (T_X12_isIn_41 (by decide) m   H) trivial
def F_X12_isIn  (x1 : Int) (x2 : Int) (x3 : Int) (x4 : Int) (x5 : Int) (u : Mu) (P : Int → Prop) : Prop :=
  F_X12_placeOf x2 x3 x4 u (fun x_5 => (if 0 ≤ x_5 then F_X12_isIn_36 u P else F_X12_placeOf x5 x3 x4 u (fun x_17 => (if x_17 < 0 then F_X12_isIn_36 u P else F_X12_isChanged x1 x3 x4 x5 u (fun x_30 => (if x_30 = 0 then F_X12_isIn_41 0 u P else F_X12_isIn_36 u P))))))
theorem T_X12_isIn  {x1 : Int} {x2 : Int} {x3 : Int} {x4 : Int} {x5 : Int} {u : Mu} {P : Int → Prop} {h : Hp} {g : Nat → Nat} (r_x1 : R32 x1) (r_x2 : R32 x2) (r_x3 : R32 x3) (r_x4 : R32 x4) (r_x5 : R32 x5) (m : Ms h g u)  (H : F_X12_isIn x1 x2 x3 x4 x5 u P) : Con mX12_isIn 5 0 0 [vr (some (g 0)), ii (x1), ii (x2), ii (x3), ii (x4), ii (x5)] h (QPI h P) := by
  refine con_of rfl (Nat.le_of_ble_eq_true rfl) (by decide) ?_
  show J mX12_isIn 5 0 0 _ 0 [some (vr (some (g 0))), some (ii (x1)), some (ii (x2)), some (ii (x3)), some (ii (x4)), some (ii (x5))] [] h
  unfold F_X12_isIn at H
  refine j_aload_n (dk dt_X12_isIn 0 rfl) rfl ?_
  refine j_iload_n (dk dt_X12_isIn 1 rfl) rfl ?_
  refine j_iload_n (dk dt_X12_isIn 2 rfl) rfl ?_
  refine j_iload (dk dt_X12_isIn 3 rfl) rfl ?_
  refine jz_callV3 (dk dt_X12_isIn 4 rfl) vl_X12_217 rfl (T_X12_placeOf r_x2 r_x3 r_x4 m H) m.1.1 rfl (by decide) (Nat.zero_le _) (Nat.zero_le _) (Nat.le_of_ble_eq_true rfl) (fun v_5 h_5 P_5 => ?_)
  obtain ⟨x_5, rfl, r_5, rfl, H⟩ := P_5
  dsimp only [rs]
  refine jz_if_ge 36 (dk dt_X12_isIn 5 rfl) (by decide) r_5 H (fun H => ?_) (fun H => ?_)
  · exact j_el (T_X12_isIn_36  m   H) trivial
  · refine j_aload_n (dk dt_X12_isIn 6 rfl) rfl ?_
    refine j_iload (dk dt_X12_isIn 7 rfl) rfl ?_
    refine j_iload_n (dk dt_X12_isIn 8 rfl) rfl ?_
    refine j_iload (dk dt_X12_isIn 9 rfl) rfl ?_
    refine jz_callV3 (dk dt_X12_isIn 10 rfl) vl_X12_217 rfl (T_X12_placeOf r_x5 r_x3 r_x4 m H) m.1.1 rfl (by decide) (Nat.zero_le _) (Nat.zero_le _) (Nat.le_of_ble_eq_true rfl) (fun v_17 h_17 P_17 => ?_)
    obtain ⟨x_17, rfl, r_17, rfl, H⟩ := P_17
    dsimp only [rs]
    refine jz_if_lt 36 (dk dt_X12_isIn 11 rfl) (by decide) r_17 H (fun H => ?_) (fun H => ?_)
    · exact j_el (T_X12_isIn_36  m   H) trivial
    · refine j_aload_n (dk dt_X12_isIn 12 rfl) rfl ?_
      refine j_iload_n (dk dt_X12_isIn 13 rfl) rfl ?_
      refine j_iload_n (dk dt_X12_isIn 14 rfl) rfl ?_
      refine j_iload (dk dt_X12_isIn 15 rfl) rfl ?_
      refine j_iload (dk dt_X12_isIn 16 rfl) rfl ?_
      refine jz_callV4 (dk dt_X12_isIn 17 rfl) vl_X12_890 rfl (T_X12_isChanged r_x1 r_x3 r_x4 r_x5 m H) m.1.1 rfl (by decide) (Nat.zero_le _) (Nat.zero_le _) (Nat.le_of_ble_eq_true rfl) (fun v_30 h_30 P_30 => ?_)
      obtain ⟨x_30, rfl, r_30, rfl, H⟩ := P_30
      dsimp only [rs]
      refine jz_if_eq 40 (dk dt_X12_isIn 18 rfl) (by decide) r_30 H (fun H => ?_) (fun H => ?_)
      · refine j_iconst (v := Int32.ofInt 0) (dk dt_X12_isIn 21 rfl) (by decide) ?_
        exact j_el (T_X12_isIn_41 (by decide) m   H) trivial
      · exact j_el (T_X12_isIn_36  m   H) trivial
def L_X12_lineOf_2  (x1 : Int) (x2 : Int) (u : Mu) (P : Int ⊕ ((Unit) ⊕ (Int)) → Prop) : Prop :=
  (if mI u 0 100 ≤ x2 then P (.inr (.inl ())) else (0 ≤ x2 ∧ x2 < 64 ∧ (if mI u 99 x2 = x1 then P (.inr (.inr x2)) else P (.inl (w32 (x2 + 1))))))
theorem U_X12_lineOf_2  {x1 : Int} {x2 : Int} {u : Mu} {P : Int ⊕ ((Unit) ⊕ (Int)) → Prop} {h : Hp} {g : Nat → Nat} {post : Option Sv ⊕ String → Hp → Prop} (r_x1 : R32 x1) (r_x2 : R32 x2) (m : Ms h g u)  (hl : ∀ (x2 : Int), P (.inl x2) → R32 x2 → J mX12_lineOf 1 0 0 post 2 [some (vr (some (g 0))), some (ii (x1)), some (ii (x2))] [] h) (he0 : P (.inr (.inl ())) → J mX12_lineOf 1 0 0 post 28 [none, none, none] [] h) (he1 : ∀ (x2 : Int), P (.inr (.inr x2)) → R32 x2 → J mX12_lineOf 1 0 0 post 20 [none, none, some (ii (x2))] [] h) (H : L_X12_lineOf_2 x1 x2 u P) : J mX12_lineOf 1 0 0 post 2 [some (vr (some (g 0))), some (ii (x1)), some (ii (x2))] [] h := by
  unfold L_X12_lineOf_2 at H
  refine j_iload_n (dk dt_X12_lineOf 2 rfl) rfl ?_
  refine j_aload_n (dk dt_X12_lineOf 3 rfl) rfl ?_
  refine jm_getI (kz := 100) (dk dt_X12_lineOf 4 rfl) fl_X12_894 rfl rfl m ?_
  refine jz_icmp_ge 28 (dk dt_X12_lineOf 5 rfl) (by decide) r_x2 (m.2.1.1 _ _) H (fun H => ?_) (fun H => ?_)
  · exact j_el (he0  H ) trivial
  · refine j_aload_n (dk dt_X12_lineOf 6 rfl) rfl ?_
    refine jm_getA (dk dt_X12_lineOf 7 rfl) fl_X12_186 rfl (c := 14) rfl m ?_
    refine j_iload_n (dk dt_X12_lineOf 8 rfl) rfl ?_
    obtain ⟨p_15, q_15, H⟩ := H
    refine jm_iald (dk dt_X12_lineOf 9 rfl) rfl rfl m p_15 q_15 ?_
    refine j_iload_n (dk dt_X12_lineOf 10 rfl) rfl ?_
    refine jz_icmp_ne 22 (dk dt_X12_lineOf 11 rfl) (by decide) (m.2.1.1 _ _) r_x1 H (fun H => ?_) (fun H => ?_)
    · exact j_el (he1 _ H r_x2) (And.intro rfl trivial)
    · refine jz_iinc (dk dt_X12_lineOf 14 rfl) rfl ?_
      refine j_goto 2 (dk dt_X12_lineOf 15 rfl) (by decide) ?_
      exact j_el (hl _ H (r32_w _)) (And.intro rfl (And.intro rfl (And.intro rfl trivial)))
def F_X12_lineOf_2  (x1 : Int) (x2 : Int) (u : Mu) (P : Int → Prop) : Prop :=
  lp (S := Int) (E := (Unit) ⊕ (Int)) (fun q P_ => L_X12_lineOf_2 x1 q u P_) x2 (fun e => match e with | (.inl _) => P (-1) | (.inr x2) => P x2)
theorem T_X12_lineOf_2  {x1 : Int} {x2 : Int} {u : Mu} {P : Int → Prop} {h : Hp} {g : Nat → Nat} (r_x1 : R32 x1) (r_x2 : R32 x2) (m : Ms h g u)   (H : F_X12_lineOf_2 x1 x2 u P) : J mX12_lineOf 1 0 0 (nx (QPI h P)) 2 [some (vr (some (g 0))), some (ii (x1)), some (ii (x2))] [] h := by
  unfold F_X12_lineOf_2 at H
  refine lp_J (G := fun q => R32 (q) → J mX12_lineOf 1 0 0 (nx (QPI h P)) 2 [some (vr (some (g 0))), some (ii (x1)), some (ii ((q)))] [] h) (fun x2 P_ hl_ he_ Hb => ?_) x2 H r_x2
  intro r_x2
  refine U_X12_lineOf_2 (P := P_) r_x1 r_x2 m  (fun x2 Hp r_x2 => hl_ x2 Hp r_x2) ?_ ?_ Hb
  · intro Hp
    have H := he_ _ Hp
    refine j_iconst (v := Int32.ofInt (-1)) (dk dt_X12_lineOf 16 rfl) (by decide) ?_
    exact j_ireturn (dk dt_X12_lineOf 17 rfl) rfl rfl ⟨_, rfl, (by decide), rfl, H⟩
  · intro x2 Hp r_x2
    have H := he_ _ Hp
    refine j_iload_n (dk dt_X12_lineOf 12 rfl) rfl ?_
    exact j_ireturn (dk dt_X12_lineOf 13 rfl) rfl rfl ⟨_, rfl, r_x2, rfl, H⟩
def F_X12_lineOf  (x1 : Int) (u : Mu) (P : Int → Prop) : Prop :=
  F_X12_lineOf_2 x1 0 u P
theorem T_X12_lineOf  {x1 : Int} {u : Mu} {P : Int → Prop} {h : Hp} {g : Nat → Nat} (r_x1 : R32 x1) (m : Ms h g u)  (H : F_X12_lineOf x1 u P) : Con mX12_lineOf 1 0 0 [vr (some (g 0)), ii (x1)] h (QPI h P) := by
  refine con_of rfl (Nat.le_of_ble_eq_true rfl) (by decide) ?_
  show J mX12_lineOf 1 0 0 _ 0 [some (vr (some (g 0))), some (ii (x1)), none] [] h
  unfold F_X12_lineOf at H
  refine j_iconst (v := Int32.ofInt 0) (dk dt_X12_lineOf 0 rfl) (by decide) ?_
  refine j_istore_n (dk dt_X12_lineOf 1 rfl) (by decide) ?_
  exact j_el (T_X12_lineOf_2 r_x1 (by decide) m   H) (And.intro rfl (And.intro rfl (And.intro rfl trivial)))
def L_X12_putLine_5  (x1 : Int) (x2 : Int) (x3 : Int) (u : Mu) (P : (Int × Mu) ⊕ ((Mu)) → Prop) : Prop :=
  (if x3 ≤ x1 then P (.inr u) else (0 ≤ w32 (x3 - 1) ∧ w32 (x3 - 1) < 64 ∧ (0 ≤ x3 ∧ x3 < 64 ∧ (∀ u_23, u_23 = uI u 99 x3 (mI u 99 (w32 (x3 - 1))) → P (.inl (w32 (x3 + (-1)), u_23))))))
theorem U_X12_putLine_5  {x1 : Int} {x2 : Int} {x3 : Int} {u : Mu} {P : (Int × Mu) ⊕ ((Mu)) → Prop} {h : Hp} {g : Nat → Nat} {post : Option Sv ⊕ String → Hp → Prop} (r_x1 : R32 x1) (r_x2 : R32 x2) (r_x3 : R32 x3) (m : Ms h g u)  (hl : ∀ (x3 : Int) (u : Mu) (h : Hp), P (.inl (x3, u)) → Ms h g u → R32 x3 → J mX12_putLine 1 0 0 post 5 [some (vr (some (g 0))), some (ii (x1)), some (ii (x2)), some (ii (x3))] [] h) (he0 : ∀ (u : Mu) (h : Hp), P (.inr u) → Ms h g u → J mX12_putLine 1 0 0 post 30 [some (vr (some (g 0))), some (ii (x1)), some (ii (x2)), none] [] h) (H : L_X12_putLine_5 x1 x2 x3 u P) : J mX12_putLine 1 0 0 post 5 [some (vr (some (g 0))), some (ii (x1)), some (ii (x2)), some (ii (x3))] [] h := by
  unfold L_X12_putLine_5 at H
  refine j_iload_n (dk dt_X12_putLine 3 rfl) rfl ?_
  refine j_iload_n (dk dt_X12_putLine 4 rfl) rfl ?_
  refine jz_icmp_le 30 (dk dt_X12_putLine 5 rfl) (by decide) r_x3 r_x1 H (fun H => ?_) (fun H => ?_)
  · exact j_el (he0 _ _ H m) (And.intro rfl (And.intro rfl (And.intro rfl trivial)))
  · refine j_aload_n (dk dt_X12_putLine 6 rfl) rfl ?_
    refine jm_getA (dk dt_X12_putLine 7 rfl) fl_X12_186 rfl (c := 14) rfl m ?_
    refine j_iload_n (dk dt_X12_putLine 8 rfl) rfl ?_
    refine j_aload_n (dk dt_X12_putLine 9 rfl) rfl ?_
    refine jm_getA (dk dt_X12_putLine 10 rfl) fl_X12_186 rfl (c := 14) rfl m ?_
    refine j_iload_n (dk dt_X12_putLine 11 rfl) rfl ?_
    refine j_iconst (v := Int32.ofInt 1) (dk dt_X12_putLine 12 rfl) (by decide) ?_
    refine jz_isub (dk dt_X12_putLine 13 rfl) ?_
    obtain ⟨p_22, q_22, H⟩ := H
    refine jm_iald (dk dt_X12_putLine 14 rfl) rfl rfl m p_22 q_22 ?_
    obtain ⟨p_23, q_23, H⟩ := H
    refine jm_iast (dk dt_X12_putLine 15 rfl) rfl rfl m p_23 q_23 (m.2.1.1 _ _) (fun h_23 m_23 => ?_)
    replace H := H _ rfl
    refine jz_iinc (dk dt_X12_putLine 16 rfl) rfl ?_
    refine j_goto 5 (dk dt_X12_putLine 17 rfl) (by decide) ?_
    exact j_el (hl _ _ _ H m_23 (r32_w _)) (And.intro rfl (And.intro rfl (And.intro rfl (And.intro rfl trivial))))
def F_X12_putLine_5  (x1 : Int) (x2 : Int) (x3 : Int) (u : Mu) (P : Mu → Prop) : Prop :=
  lp (S := Int × Mu) (E := (Mu)) (fun q P_ => L_X12_putLine_5 x1 x2 q.1 q.2 P_) (x3, u) (fun (u : Mu) => (0 ≤ x1 ∧ x1 < 64 ∧ (∀ u_36, u_36 = uI u 99 x1 x2 → (∀ u_44, u_44 = uI u_36 0 100 (w32 (mI u_36 0 100 + 1)) → P u_44))))
theorem T_X12_putLine_5  {x1 : Int} {x2 : Int} {x3 : Int} {u : Mu} {P : Mu → Prop} {h : Hp} {g : Nat → Nat} (r_x1 : R32 x1) (r_x2 : R32 x2) (r_x3 : R32 x3) (m : Ms h g u)   (H : F_X12_putLine_5 x1 x2 x3 u P) : J mX12_putLine 1 0 0 (nx (QMV g P)) 5 [some (vr (some (g 0))), some (ii (x1)), some (ii (x2)), some (ii (x3))] [] h := by
  unfold F_X12_putLine_5 at H
  refine lp_J (G := fun q => ∀ h : Hp, Ms h g (q.2) → R32 (q.1) → J mX12_putLine 1 0 0 (nx (QMV g P)) 5 [some (vr (some (g 0))), some (ii (x1)), some (ii (x2)), some (ii ((q.1)))] [] h) (fun q P_ hl_ he_ Hb => ?_) (x3, u) H _ m r_x3
  obtain ⟨x3, u⟩ := q
  intro h m r_x3
  refine U_X12_putLine_5 (P := P_) r_x1 r_x2 r_x3 m  (fun x3 u h Hp m r_x3 => hl_ (x3, u) Hp h m r_x3) ?_ Hb
  · intro u h Hp m
    have H := he_ _ Hp
    refine j_aload_n (dk dt_X12_putLine 18 rfl) rfl ?_
    refine jm_getA (dk dt_X12_putLine 19 rfl) fl_X12_186 rfl (c := 14) rfl m ?_
    refine j_iload_n (dk dt_X12_putLine 20 rfl) rfl ?_
    refine j_iload_n (dk dt_X12_putLine 21 rfl) rfl ?_
    obtain ⟨p_36, q_36, H⟩ := H
    refine jm_iast (dk dt_X12_putLine 22 rfl) rfl rfl m p_36 q_36 r_x2 (fun h_36 m_36 => ?_)
    replace H := H _ rfl
    refine j_aload_n (dk dt_X12_putLine 23 rfl) rfl ?_
    refine j_dup (dk dt_X12_putLine 24 rfl) rfl ?_
    refine jm_getI (kz := 100) (dk dt_X12_putLine 25 rfl) fl_X12_894 rfl rfl m_36 ?_
    refine j_iconst (v := Int32.ofInt 1) (dk dt_X12_putLine 26 rfl) (by decide) ?_
    refine jz_iadd (dk dt_X12_putLine 27 rfl) ?_
    refine jm_putI (kz := 100) (dk dt_X12_putLine 28 rfl) fl_X12_894 rfl rfl rfl rfl m_36 (r32_w _) (fun h_44 m_44 => ?_)
    replace H := H _ rfl
    exact j_return (dk dt_X12_putLine 29 rfl) rfl ⟨_, rfl, m_44, H⟩
def F_X12_putLine  (x1 : Int) (x2 : Int) (u : Mu) (P : Mu → Prop) : Prop :=
  F_X12_putLine_5 x1 x2 (mI u 0 100) u P
theorem T_X12_putLine  {x1 : Int} {x2 : Int} {u : Mu} {P : Mu → Prop} {h : Hp} {g : Nat → Nat} (r_x1 : R32 x1) (r_x2 : R32 x2) (m : Ms h g u)  (H : F_X12_putLine x1 x2 u P) : Con mX12_putLine 1 0 0 [vr (some (g 0)), ii (x1), ii (x2)] h (QMV g P) := by
  refine con_of rfl (Nat.le_of_ble_eq_true rfl) (by decide) ?_
  show J mX12_putLine 1 0 0 _ 0 [some (vr (some (g 0))), some (ii (x1)), some (ii (x2)), none] [] h
  unfold F_X12_putLine at H
  refine j_aload_n (dk dt_X12_putLine 0 rfl) rfl ?_
  refine jm_getI (kz := 100) (dk dt_X12_putLine 1 rfl) fl_X12_894 rfl rfl m ?_
  refine j_istore_n (dk dt_X12_putLine 2 rfl) (by decide) ?_
  exact j_el (T_X12_putLine_5 r_x1 r_x2 (m.2.1.1 _ _) m   H) (And.intro rfl (And.intro rfl (And.intro rfl (And.intro rfl trivial))))
def F_X12_sameOrder_82  (x1 : Int) (x2 : Int) (x3 : Int) (x4 : Int) (x6 : Int) (s0 : Int) (u : Mu) (P : (Int × Int) ⊕ ((Unit) ⊕ (Unit)) → Prop) : Prop :=
  P (.inl (s0, w32 (x6 + 1)))
theorem T_X12_sameOrder_82  {x1 : Int} {x2 : Int} {x3 : Int} {x4 : Int} {x6 : Int} {s0 : Int} {u : Mu} {P : (Int × Int) ⊕ ((Unit) ⊕ (Unit)) → Prop} {h : Hp} {g : Nat → Nat} {post : Option Sv ⊕ String → Hp → Prop} (r_x1 : R32 x1) (r_x2 : R32 x2) (r_x3 : R32 x3) (r_x4 : R32 x4) (r_x6 : R32 x6) (r_s0 : R32 s0) (m : Ms h g u)  (hl : ∀ (x5 : Int) (x6 : Int), P (.inl (x5, x6)) → R32 x5 → R32 x6 → J mX12_sameOrder 3 0 0 post 6 [some (vr (some (g 0))), some (ii (x1)), some (ii (x2)), some (ii (x3)), some (ii (x4)), some (ii (x5)), some (ii (x6)), none, none] [] h) (he0 : P (.inr (.inl ())) → J mX12_sameOrder 3 0 0 post 90 [none, none, none, none, none, none, none, none, none] [] h) (he1 : P (.inr (.inr ())) → J mX12_sameOrder 3 0 0 post 68 [none, none, none, none, none, none, none, none, none] [] h) (H : F_X12_sameOrder_82 x1 x2 x3 x4 x6 s0 u P) : J mX12_sameOrder 3 0 0 (post) 82 [some (vr (some (g 0))), some (ii (x1)), some (ii (x2)), some (ii (x3)), some (ii (x4)), none, some (ii (x6)), none, none] [ii (s0)] h := by
  unfold F_X12_sameOrder_82 at H
  refine j_istore (dk dt_X12_sameOrder 42 rfl) (by decide) ?_
  refine jz_iinc (dk dt_X12_sameOrder 43 rfl) rfl ?_
  refine j_goto 6 (dk dt_X12_sameOrder 44 rfl) (by decide) ?_
  exact j_el (hl _ _ H r_s0 (r32_w _)) (And.intro rfl (And.intro rfl (And.intro rfl (And.intro rfl (And.intro rfl (And.intro rfl (And.intro rfl trivial)))))))
def F_X12_sameOrder_70  (x1 : Int) (x2 : Int) (x3 : Int) (x4 : Int) (x5 : Int) (x6 : Int) (x8 : Int) (u : Mu) (P : (Int × Int) ⊕ ((Unit) ⊕ (Unit)) → Prop) : Prop :=
  (if x8 < 0 then F_X12_sameOrder_82 x1 x2 x3 x4 x6 x5 u P else F_X12_sameOrder_82 x1 x2 x3 x4 x6 x8 u P)
theorem T_X12_sameOrder_70  {x1 : Int} {x2 : Int} {x3 : Int} {x4 : Int} {x5 : Int} {x6 : Int} {x8 : Int} {u : Mu} {P : (Int × Int) ⊕ ((Unit) ⊕ (Unit)) → Prop} {h : Hp} {g : Nat → Nat} {post : Option Sv ⊕ String → Hp → Prop} (r_x1 : R32 x1) (r_x2 : R32 x2) (r_x3 : R32 x3) (r_x4 : R32 x4) (r_x5 : R32 x5) (r_x6 : R32 x6) (r_x8 : R32 x8) (m : Ms h g u)  (hl : ∀ (x5 : Int) (x6 : Int), P (.inl (x5, x6)) → R32 x5 → R32 x6 → J mX12_sameOrder 3 0 0 post 6 [some (vr (some (g 0))), some (ii (x1)), some (ii (x2)), some (ii (x3)), some (ii (x4)), some (ii (x5)), some (ii (x6)), none, none] [] h) (he0 : P (.inr (.inl ())) → J mX12_sameOrder 3 0 0 post 90 [none, none, none, none, none, none, none, none, none] [] h) (he1 : P (.inr (.inr ())) → J mX12_sameOrder 3 0 0 post 68 [none, none, none, none, none, none, none, none, none] [] h) (H : F_X12_sameOrder_70 x1 x2 x3 x4 x5 x6 x8 u P) : J mX12_sameOrder 3 0 0 (post) 70 [some (vr (some (g 0))), some (ii (x1)), some (ii (x2)), some (ii (x3)), some (ii (x4)), some (ii (x5)), some (ii (x6)), none, some (ii (x8))] [] h := by
  unfold F_X12_sameOrder_70 at H
  refine j_iload (dk dt_X12_sameOrder 37 rfl) rfl ?_
  refine jz_if_lt 80 (dk dt_X12_sameOrder 38 rfl) (by decide) r_x8 H (fun H => ?_) (fun H => ?_)
  · refine j_iload (dk dt_X12_sameOrder 41 rfl) rfl ?_
    exact j_el (T_X12_sameOrder_82 r_x1 r_x2 r_x3 r_x4 r_x6 r_x5 m  hl he0 he1 H) (And.intro rfl (And.intro rfl (And.intro rfl (And.intro rfl (And.intro rfl (And.intro rfl trivial))))))
  · refine j_iload (dk dt_X12_sameOrder 39 rfl) rfl ?_
    refine j_goto 82 (dk dt_X12_sameOrder 40 rfl) (by decide) ?_
    exact j_el (T_X12_sameOrder_82 r_x1 r_x2 r_x3 r_x4 r_x6 r_x8 m  hl he0 he1 H) (And.intro rfl (And.intro rfl (And.intro rfl (And.intro rfl (And.intro rfl (And.intro rfl trivial))))))
def F_X12_sameOrder_54  (x1 : Int) (x2 : Int) (x3 : Int) (x4 : Int) (x5 : Int) (x6 : Int) (s0 : Int) (u : Mu) (P : (Int × Int) ⊕ ((Unit) ⊕ (Unit)) → Prop) : Prop :=
  (if s0 < 0 then F_X12_sameOrder_70 x1 x2 x3 x4 x5 x6 s0 u P else (if x5 ≤ s0 then F_X12_sameOrder_70 x1 x2 x3 x4 x5 x6 s0 u P else P (.inr (.inr ()))))
theorem T_X12_sameOrder_54  {x1 : Int} {x2 : Int} {x3 : Int} {x4 : Int} {x5 : Int} {x6 : Int} {s0 : Int} {u : Mu} {P : (Int × Int) ⊕ ((Unit) ⊕ (Unit)) → Prop} {h : Hp} {g : Nat → Nat} {post : Option Sv ⊕ String → Hp → Prop} (r_x1 : R32 x1) (r_x2 : R32 x2) (r_x3 : R32 x3) (r_x4 : R32 x4) (r_x5 : R32 x5) (r_x6 : R32 x6) (r_s0 : R32 s0) (m : Ms h g u)  (hl : ∀ (x5 : Int) (x6 : Int), P (.inl (x5, x6)) → R32 x5 → R32 x6 → J mX12_sameOrder 3 0 0 post 6 [some (vr (some (g 0))), some (ii (x1)), some (ii (x2)), some (ii (x3)), some (ii (x4)), some (ii (x5)), some (ii (x6)), none, none] [] h) (he0 : P (.inr (.inl ())) → J mX12_sameOrder 3 0 0 post 90 [none, none, none, none, none, none, none, none, none] [] h) (he1 : P (.inr (.inr ())) → J mX12_sameOrder 3 0 0 post 68 [none, none, none, none, none, none, none, none, none] [] h) (H : F_X12_sameOrder_54 x1 x2 x3 x4 x5 x6 s0 u P) : J mX12_sameOrder 3 0 0 (post) 54 [some (vr (some (g 0))), some (ii (x1)), some (ii (x2)), some (ii (x3)), some (ii (x4)), some (ii (x5)), some (ii (x6)), none, none] [ii (s0)] h := by
  unfold F_X12_sameOrder_54 at H
  refine j_istore (dk dt_X12_sameOrder 29 rfl) (by decide) ?_
  refine j_iload (dk dt_X12_sameOrder 30 rfl) rfl ?_
  refine jz_if_lt 70 (dk dt_X12_sameOrder 31 rfl) (by decide) r_s0 H (fun H => ?_) (fun H => ?_)
  · exact j_el (T_X12_sameOrder_70 r_x1 r_x2 r_x3 r_x4 r_x5 r_x6 r_s0 m  hl he0 he1 H) (And.intro rfl (And.intro rfl (And.intro rfl (And.intro rfl (And.intro rfl (And.intro rfl (And.intro rfl (And.intro rfl trivial))))))))
  · refine j_iload (dk dt_X12_sameOrder 32 rfl) rfl ?_
    refine j_iload (dk dt_X12_sameOrder 33 rfl) rfl ?_
    refine jz_icmp_ge 70 (dk dt_X12_sameOrder 34 rfl) (by decide) r_s0 r_x5 H (fun H => ?_) (fun H => ?_)
    · exact j_el (T_X12_sameOrder_70 r_x1 r_x2 r_x3 r_x4 r_x5 r_x6 r_s0 m  hl he0 he1 H) (And.intro rfl (And.intro rfl (And.intro rfl (And.intro rfl (And.intro rfl (And.intro rfl (And.intro rfl (And.intro rfl trivial))))))))
    · exact j_el (he1  H ) trivial
def L_X12_sameOrder_6  (x1 : Int) (x2 : Int) (x3 : Int) (x4 : Int) (x5 : Int) (x6 : Int) (u : Mu) (P : (Int × Int) ⊕ ((Unit) ⊕ (Unit)) → Prop) : Prop :=
  F_X12_linesOf x1 x4 u (fun x_12 => (if x_12 ≤ x6 then P (.inr (.inl ())) else F_X12_lineAt x1 x4 x6 u (fun x_24 => F_X12_placeOf x3 x4 x_24 u (fun x_35 => (if 0 ≤ x_35 then F_X12_placeOf x2 x4 x_24 u (fun x_51 => F_X12_sameOrder_54 x1 x2 x3 x4 x5 x6 x_51 u P) else F_X12_sameOrder_54 x1 x2 x3 x4 x5 x6 (-1) u P)))))
theorem U_X12_sameOrder_6  {x1 : Int} {x2 : Int} {x3 : Int} {x4 : Int} {x5 : Int} {x6 : Int} {u : Mu} {P : (Int × Int) ⊕ ((Unit) ⊕ (Unit)) → Prop} {h : Hp} {g : Nat → Nat} {post : Option Sv ⊕ String → Hp → Prop} (r_x1 : R32 x1) (r_x2 : R32 x2) (r_x3 : R32 x3) (r_x4 : R32 x4) (r_x5 : R32 x5) (r_x6 : R32 x6) (m : Ms h g u)  (hl : ∀ (x5 : Int) (x6 : Int), P (.inl (x5, x6)) → R32 x5 → R32 x6 → J mX12_sameOrder 3 0 0 post 6 [some (vr (some (g 0))), some (ii (x1)), some (ii (x2)), some (ii (x3)), some (ii (x4)), some (ii (x5)), some (ii (x6)), none, none] [] h) (he0 : P (.inr (.inl ())) → J mX12_sameOrder 3 0 0 post 90 [none, none, none, none, none, none, none, none, none] [] h) (he1 : P (.inr (.inr ())) → J mX12_sameOrder 3 0 0 post 68 [none, none, none, none, none, none, none, none, none] [] h) (H : L_X12_sameOrder_6 x1 x2 x3 x4 x5 x6 u P) : J mX12_sameOrder 3 0 0 post 6 [some (vr (some (g 0))), some (ii (x1)), some (ii (x2)), some (ii (x3)), some (ii (x4)), some (ii (x5)), some (ii (x6)), none, none] [] h := by
  unfold L_X12_sameOrder_6 at H
  refine j_iload (dk dt_X12_sameOrder 4 rfl) rfl ?_
  refine j_aload_n (dk dt_X12_sameOrder 5 rfl) rfl ?_
  refine j_iload_n (dk dt_X12_sameOrder 6 rfl) rfl ?_
  refine j_iload (dk dt_X12_sameOrder 7 rfl) rfl ?_
  refine jz_callV2 (dk dt_X12_sameOrder 8 rfl) vl_X12_209 rfl (T_X12_linesOf r_x1 r_x4 m H) m.1.1 rfl (by decide) (Nat.zero_le _) (Nat.zero_le _) (Nat.le_of_ble_eq_true rfl) (fun v_12 h_12 P_12 => ?_)
  obtain ⟨x_12, rfl, r_12, rfl, H⟩ := P_12
  dsimp only [rs]
  refine jz_icmp_ge 90 (dk dt_X12_sameOrder 9 rfl) (by decide) r_x6 r_12 H (fun H => ?_) (fun H => ?_)
  · exact j_el (he0  H ) trivial
  · refine j_aload_n (dk dt_X12_sameOrder 10 rfl) rfl ?_
    refine j_iload_n (dk dt_X12_sameOrder 11 rfl) rfl ?_
    refine j_iload (dk dt_X12_sameOrder 12 rfl) rfl ?_
    refine j_iload (dk dt_X12_sameOrder 13 rfl) rfl ?_
    refine jz_callV3 (dk dt_X12_sameOrder 14 rfl) vl_X12_213 rfl (T_X12_lineAt r_x1 r_x4 r_x6 m H) m.1.1 rfl (by decide) (Nat.zero_le _) (Nat.zero_le _) (Nat.le_of_ble_eq_true rfl) (fun v_24 h_24 P_24 => ?_)
    obtain ⟨x_24, rfl, r_24, rfl, H⟩ := P_24
    dsimp only [rs]
    refine j_istore (dk dt_X12_sameOrder 15 rfl) (by decide) ?_
    refine j_aload_n (dk dt_X12_sameOrder 16 rfl) rfl ?_
    refine j_iload_n (dk dt_X12_sameOrder 17 rfl) rfl ?_
    refine j_iload (dk dt_X12_sameOrder 18 rfl) rfl ?_
    refine j_iload (dk dt_X12_sameOrder 19 rfl) rfl ?_
    refine jz_callV3 (dk dt_X12_sameOrder 20 rfl) vl_X12_217 rfl (T_X12_placeOf r_x3 r_x4 r_24 m H) m.1.1 rfl (by decide) (Nat.zero_le _) (Nat.zero_le _) (Nat.le_of_ble_eq_true rfl) (fun v_35 h_35 P_35 => ?_)
    obtain ⟨x_35, rfl, r_35, rfl, H⟩ := P_35
    dsimp only [rs]
    refine jz_if_ge 45 (dk dt_X12_sameOrder 21 rfl) (by decide) r_35 H (fun H => ?_) (fun H => ?_)
    · refine j_aload_n (dk dt_X12_sameOrder 24 rfl) rfl ?_
      refine j_iload_n (dk dt_X12_sameOrder 25 rfl) rfl ?_
      refine j_iload (dk dt_X12_sameOrder 26 rfl) rfl ?_
      refine j_iload (dk dt_X12_sameOrder 27 rfl) rfl ?_
      refine jz_callV3 (dk dt_X12_sameOrder 28 rfl) vl_X12_217 rfl (T_X12_placeOf r_x2 r_x4 r_24 m H) m.1.1 rfl (by decide) (Nat.zero_le _) (Nat.zero_le _) (Nat.le_of_ble_eq_true rfl) (fun v_51 h_51 P_51 => ?_)
      obtain ⟨x_51, rfl, r_51, rfl, H⟩ := P_51
      dsimp only [rs]
      exact j_el (T_X12_sameOrder_54 r_x1 r_x2 r_x3 r_x4 r_x5 r_x6 r_51 m  hl he0 he1 H) (And.intro rfl (And.intro rfl (And.intro rfl (And.intro rfl (And.intro rfl (And.intro rfl (And.intro rfl trivial)))))))
    · refine j_iconst (v := Int32.ofInt (-1)) (dk dt_X12_sameOrder 22 rfl) (by decide) ?_
      refine j_goto 54 (dk dt_X12_sameOrder 23 rfl) (by decide) ?_
      exact j_el (T_X12_sameOrder_54 r_x1 r_x2 r_x3 r_x4 r_x5 r_x6 (by decide) m  hl he0 he1 H) (And.intro rfl (And.intro rfl (And.intro rfl (And.intro rfl (And.intro rfl (And.intro rfl (And.intro rfl trivial)))))))
def F_X12_sameOrder_6  (x1 : Int) (x2 : Int) (x3 : Int) (x4 : Int) (x5 : Int) (x6 : Int) (u : Mu) (P : Int → Prop) : Prop :=
  lp (S := Int × Int) (E := (Unit) ⊕ (Unit)) (fun q P_ => L_X12_sameOrder_6 x1 x2 x3 x4 q.1 q.2 u P_) (x5, x6) (fun e => match e with | (.inl _) => P 1 | (.inr _) => P 0)
theorem T_X12_sameOrder_6  {x1 : Int} {x2 : Int} {x3 : Int} {x4 : Int} {x5 : Int} {x6 : Int} {u : Mu} {P : Int → Prop} {h : Hp} {g : Nat → Nat} (r_x1 : R32 x1) (r_x2 : R32 x2) (r_x3 : R32 x3) (r_x4 : R32 x4) (r_x5 : R32 x5) (r_x6 : R32 x6) (m : Ms h g u)   (H : F_X12_sameOrder_6 x1 x2 x3 x4 x5 x6 u P) : J mX12_sameOrder 3 0 0 (nx (QPI h P)) 6 [some (vr (some (g 0))), some (ii (x1)), some (ii (x2)), some (ii (x3)), some (ii (x4)), some (ii (x5)), some (ii (x6)), none, none] [] h := by
  unfold F_X12_sameOrder_6 at H
  refine lp_J (G := fun q => R32 (q.1) → R32 (q.2) → J mX12_sameOrder 3 0 0 (nx (QPI h P)) 6 [some (vr (some (g 0))), some (ii (x1)), some (ii (x2)), some (ii (x3)), some (ii (x4)), some (ii ((q.1))), some (ii ((q.2))), none, none] [] h) (fun q P_ hl_ he_ Hb => ?_) (x5, x6) H r_x5 r_x6
  obtain ⟨x5, x6⟩ := q
  intro r_x5 r_x6
  refine U_X12_sameOrder_6 (P := P_) r_x1 r_x2 r_x3 r_x4 r_x5 r_x6 m  (fun x5 x6 Hp r_x5 r_x6 => hl_ (x5, x6) Hp r_x5 r_x6) ?_ ?_ Hb
  · intro Hp
    have H := he_ _ Hp
    refine j_iconst (v := Int32.ofInt 1) (dk dt_X12_sameOrder 45 rfl) (by decide) ?_
    exact j_ireturn (dk dt_X12_sameOrder 46 rfl) rfl (nar_z (by decide)) ⟨_, rfl, (by decide), rfl, H⟩
  · intro Hp
    have H := he_ _ Hp
    refine j_iconst (v := Int32.ofInt 0) (dk dt_X12_sameOrder 35 rfl) (by decide) ?_
    exact j_ireturn (dk dt_X12_sameOrder 36 rfl) rfl (nar_z (by decide)) ⟨_, rfl, (by decide), rfl, H⟩
def F_X12_sameOrder  (x1 : Int) (x2 : Int) (x3 : Int) (x4 : Int) (u : Mu) (P : Int → Prop) : Prop :=
  F_X12_sameOrder_6 x1 x2 x3 x4 (-1) 0 u P
theorem T_X12_sameOrder  {x1 : Int} {x2 : Int} {x3 : Int} {x4 : Int} {u : Mu} {P : Int → Prop} {h : Hp} {g : Nat → Nat} (r_x1 : R32 x1) (r_x2 : R32 x2) (r_x3 : R32 x3) (r_x4 : R32 x4) (m : Ms h g u)  (H : F_X12_sameOrder x1 x2 x3 x4 u P) : Con mX12_sameOrder 3 0 0 [vr (some (g 0)), ii (x1), ii (x2), ii (x3), ii (x4)] h (QPI h P) := by
  refine con_of rfl (Nat.le_of_ble_eq_true rfl) (by decide) ?_
  show J mX12_sameOrder 3 0 0 _ 0 [some (vr (some (g 0))), some (ii (x1)), some (ii (x2)), some (ii (x3)), some (ii (x4)), none, none, none, none] [] h
  unfold F_X12_sameOrder at H
  refine j_iconst (v := Int32.ofInt (-1)) (dk dt_X12_sameOrder 0 rfl) (by decide) ?_
  refine j_istore (dk dt_X12_sameOrder 1 rfl) (by decide) ?_
  refine j_iconst (v := Int32.ofInt 0) (dk dt_X12_sameOrder 2 rfl) (by decide) ?_
  refine j_istore (dk dt_X12_sameOrder 3 rfl) (by decide) ?_
  exact j_el (T_X12_sameOrder_6 r_x1 r_x2 r_x3 r_x4 (by decide) (by decide) m   H) (And.intro rfl (And.intro rfl (And.intro rfl (And.intro rfl (And.intro rfl (And.intro rfl (And.intro rfl trivial)))))))
