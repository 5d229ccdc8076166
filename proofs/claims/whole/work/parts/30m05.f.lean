def F_X12_wantsNumber_46  (s0 : Int) (u : Mu) (P : Int → Mu → Prop) : Prop :=
  (Z1 s0 ∧ P s0 u)
theorem T_X12_wantsNumber_46  {s0 : Int} {u : Mu} {P : Int → Mu → Prop} {h : Hp} {g : Nat → Nat} (r_s0 : R32 s0) (m : Ms h g u)   (H : F_X12_wantsNumber_46 s0 u P) : J mX12_wantsNumber 2 0 0 (nx (QMI g P)) 46 [none, none] [ii (s0)] h := by
  unfold F_X12_wantsNumber_46 at H
  obtain ⟨hz_, H⟩ := H
  exact j_ireturn (dk dt_X12_wantsNumber 28 rfl) rfl (nar_z hz_) ⟨_, _, rfl, r_s0, m, H⟩
def F_X12_wantsNumber_31  (x1 : Int) (u : Mu) (P : Int → Mu → Prop) : Prop :=
  (0 ≤ x1 ∧ x1 < 200 ∧ (if mI u 66 x1 = 1 then F_X12_wantsNumber_46 1 u P else F_X12_wantsNumber_46 0 u P))
theorem T_X12_wantsNumber_31  {x1 : Int} {u : Mu} {P : Int → Mu → Prop} {h : Hp} {g : Nat → Nat} (r_x1 : R32 x1) (m : Ms h g u)   (H : F_X12_wantsNumber_31 x1 u P) : J mX12_wantsNumber 2 0 0 (nx (QMI g P)) 31 [some (vr (some (g 0))), some (ii (x1))] [] h := by
  unfold F_X12_wantsNumber_31 at H
  refine j_aload_n (dk dt_X12_wantsNumber 19 rfl) rfl ?_
  refine jm_getA (dk dt_X12_wantsNumber 20 rfl) fl_X12_126 rfl (c := 14) rfl m ?_
  refine j_iload_n (dk dt_X12_wantsNumber 21 rfl) rfl ?_
  obtain ⟨p_36, q_36, H⟩ := H
  refine jm_iald (dk dt_X12_wantsNumber 22 rfl) rfl rfl m p_36 q_36 ?_
  refine j_iconst (v := Int32.ofInt 1) (dk dt_X12_wantsNumber 23 rfl) (by decide) ?_
  refine jz_icmp_ne 45 (dk dt_X12_wantsNumber 24 rfl) (by decide) (m.2.1.1 _ _) (by decide) H (fun H => ?_) (fun H => ?_)
  · refine j_iconst (v := Int32.ofInt 1) (dk dt_X12_wantsNumber 25 rfl) (by decide) ?_
    refine j_goto 46 (dk dt_X12_wantsNumber 26 rfl) (by decide) ?_
    exact j_el (T_X12_wantsNumber_46 (by decide) m   H) trivial
  · refine j_iconst (v := Int32.ofInt 0) (dk dt_X12_wantsNumber 27 rfl) (by decide) ?_
    exact j_el (T_X12_wantsNumber_46 (by decide) m   H) trivial
def F_X12_wantsNumber_15  (x1 : Int) (u : Mu) (P : Int → Mu → Prop) : Prop :=
  (0 ≤ x1 ∧ x1 < 200 ∧ (if mI u 66 x1 = 1 then F_X12_wantsNumber_31 x1 u P else F_X12_error x1 3 u (fun u_28 => F_X12_wantsNumber_31 x1 u_28 P)))
theorem T_X12_wantsNumber_15  {x1 : Int} {u : Mu} {P : Int → Mu → Prop} {h : Hp} {g : Nat → Nat} (r_x1 : R32 x1) (m : Ms h g u)   (H : F_X12_wantsNumber_15 x1 u P) : J mX12_wantsNumber 2 0 0 (nx (QMI g P)) 15 [some (vr (some (g 0))), some (ii (x1))] [] h := by
  unfold F_X12_wantsNumber_15 at H
  refine j_aload_n (dk dt_X12_wantsNumber 9 rfl) rfl ?_
  refine jm_getA (dk dt_X12_wantsNumber 10 rfl) fl_X12_126 rfl (c := 14) rfl m ?_
  refine j_iload_n (dk dt_X12_wantsNumber 11 rfl) rfl ?_
  obtain ⟨p_20, q_20, H⟩ := H
  refine jm_iald (dk dt_X12_wantsNumber 12 rfl) rfl rfl m p_20 q_20 ?_
  refine j_iconst (v := Int32.ofInt 1) (dk dt_X12_wantsNumber 13 rfl) (by decide) ?_
  refine jz_icmp_eq 31 (dk dt_X12_wantsNumber 14 rfl) (by decide) (m.2.1.1 _ _) (by decide) H (fun H => ?_) (fun H => ?_)
  · exact j_el (T_X12_wantsNumber_31 r_x1 m   H) (And.intro rfl (And.intro rfl trivial))
  · refine j_aload_n (dk dt_X12_wantsNumber 15 rfl) rfl ?_
    refine j_iload_n (dk dt_X12_wantsNumber 16 rfl) rfl ?_
    refine j_iconst (v := Int32.ofInt 3) (dk dt_X12_wantsNumber 17 rfl) (by decide) ?_
    refine jz_callV2 (dk dt_X12_wantsNumber 18 rfl) vl_X12_541 rfl (T_X12_error r_x1 (by decide) m H) m.1.1 rfl (by decide) (Nat.zero_le _) (Nat.zero_le _) (Nat.le_of_ble_eq_true rfl) (fun v_28 h_28 P_28 => ?_)
    obtain ⟨u_28, rfl, m_28, H⟩ := P_28
    dsimp only [rs]
    exact j_el (T_X12_wantsNumber_31 r_x1 m_28   H) (And.intro rfl (And.intro rfl trivial))
def F_X12_wantsNumber  (x1 : Int) (u : Mu) (P : Int → Mu → Prop) : Prop :=
  (0 ≤ x1 ∧ x1 < 200 ∧ (if mI u 66 x1 = 0 then F_X12_number x1 0 u (fun u_12 => F_X12_wantsNumber_15 x1 u_12 P) else F_X12_wantsNumber_15 x1 u P))
theorem T_X12_wantsNumber  {x1 : Int} {u : Mu} {P : Int → Mu → Prop} {h : Hp} {g : Nat → Nat} (r_x1 : R32 x1) (m : Ms h g u)  (H : F_X12_wantsNumber x1 u P) : Con mX12_wantsNumber 2 0 0 [vr (some (g 0)), ii (x1)] h (QMI g P) := by
  refine con_of rfl (Nat.le_of_ble_eq_true rfl) (by decide) ?_
  show J mX12_wantsNumber 2 0 0 _ 0 [some (vr (some (g 0))), some (ii (x1))] [] h
  unfold F_X12_wantsNumber at H
  refine j_aload_n (dk dt_X12_wantsNumber 0 rfl) rfl ?_
  refine jm_getA (dk dt_X12_wantsNumber 1 rfl) fl_X12_126 rfl (c := 14) rfl m ?_
  refine j_iload_n (dk dt_X12_wantsNumber 2 rfl) rfl ?_
  obtain ⟨p_5, q_5, H⟩ := H
  refine jm_iald (dk dt_X12_wantsNumber 3 rfl) rfl rfl m p_5 q_5 ?_
  refine jz_if_ne 15 (dk dt_X12_wantsNumber 4 rfl) (by decide) (m.2.1.1 _ _) H (fun H => ?_) (fun H => ?_)
  · refine j_aload_n (dk dt_X12_wantsNumber 5 rfl) rfl ?_
    refine j_iload_n (dk dt_X12_wantsNumber 6 rfl) rfl ?_
    refine j_lconst (v := Int64.ofInt 0) (dk dt_X12_wantsNumber 7 rfl) (by decide) ?_
    refine jz_callV2 (dk dt_X12_wantsNumber 8 rfl) vl_X12_537 rfl (T_X12_number r_x1 (by decide) m H) m.1.1 rfl (by decide) (Nat.zero_le _) (Nat.zero_le _) (Nat.le_of_ble_eq_true rfl) (fun v_12 h_12 P_12 => ?_)
    obtain ⟨u_12, rfl, m_12, H⟩ := P_12
    dsimp only [rs]
    exact j_el (T_X12_wantsNumber_15 r_x1 m_12   H) (And.intro rfl (And.intro rfl trivial))
  · exact j_el (T_X12_wantsNumber_15 r_x1 m   H) (And.intro rfl (And.intro rfl trivial))
def F_X12_wantsTruth_46  (s0 : Int) (u : Mu) (P : Int → Mu → Prop) : Prop :=
  (Z1 s0 ∧ P s0 u)
theorem T_X12_wantsTruth_46  {s0 : Int} {u : Mu} {P : Int → Mu → Prop} {h : Hp} {g : Nat → Nat} (r_s0 : R32 s0) (m : Ms h g u)   (H : F_X12_wantsTruth_46 s0 u P) : J mX12_wantsTruth 2 0 0 (nx (QMI g P)) 46 [none, none] [ii (s0)] h := by
  unfold F_X12_wantsTruth_46 at H
  obtain ⟨hz_, H⟩ := H
  exact j_ireturn (dk dt_X12_wantsTruth 28 rfl) rfl (nar_z hz_) ⟨_, _, rfl, r_s0, m, H⟩
def F_X12_wantsTruth_31  (x1 : Int) (u : Mu) (P : Int → Mu → Prop) : Prop :=
  (0 ≤ x1 ∧ x1 < 200 ∧ (if mI u 66 x1 = 3 then F_X12_wantsTruth_46 1 u P else F_X12_wantsTruth_46 0 u P))
theorem T_X12_wantsTruth_31  {x1 : Int} {u : Mu} {P : Int → Mu → Prop} {h : Hp} {g : Nat → Nat} (r_x1 : R32 x1) (m : Ms h g u)   (H : F_X12_wantsTruth_31 x1 u P) : J mX12_wantsTruth 2 0 0 (nx (QMI g P)) 31 [some (vr (some (g 0))), some (ii (x1))] [] h := by
  unfold F_X12_wantsTruth_31 at H
  refine j_aload_n (dk dt_X12_wantsTruth 19 rfl) rfl ?_
  refine jm_getA (dk dt_X12_wantsTruth 20 rfl) fl_X12_126 rfl (c := 14) rfl m ?_
  refine j_iload_n (dk dt_X12_wantsTruth 21 rfl) rfl ?_
  obtain ⟨p_36, q_36, H⟩ := H
  refine jm_iald (dk dt_X12_wantsTruth 22 rfl) rfl rfl m p_36 q_36 ?_
  refine j_iconst (v := Int32.ofInt 3) (dk dt_X12_wantsTruth 23 rfl) (by decide) ?_
  refine jz_icmp_ne 45 (dk dt_X12_wantsTruth 24 rfl) (by decide) (m.2.1.1 _ _) (by decide) H (fun H => ?_) (fun H => ?_)
  · refine j_iconst (v := Int32.ofInt 1) (dk dt_X12_wantsTruth 25 rfl) (by decide) ?_
    refine j_goto 46 (dk dt_X12_wantsTruth 26 rfl) (by decide) ?_
    exact j_el (T_X12_wantsTruth_46 (by decide) m   H) trivial
  · refine j_iconst (v := Int32.ofInt 0) (dk dt_X12_wantsTruth 27 rfl) (by decide) ?_
    exact j_el (T_X12_wantsTruth_46 (by decide) m   H) trivial
def F_X12_wantsTruth_15  (x1 : Int) (u : Mu) (P : Int → Mu → Prop) : Prop :=
  (0 ≤ x1 ∧ x1 < 200 ∧ (if mI u 66 x1 = 3 then F_X12_wantsTruth_31 x1 u P else F_X12_error x1 3 u (fun u_28 => F_X12_wantsTruth_31 x1 u_28 P)))
theorem T_X12_wantsTruth_15  {x1 : Int} {u : Mu} {P : Int → Mu → Prop} {h : Hp} {g : Nat → Nat} (r_x1 : R32 x1) (m : Ms h g u)   (H : F_X12_wantsTruth_15 x1 u P) : J mX12_wantsTruth 2 0 0 (nx (QMI g P)) 15 [some (vr (some (g 0))), some (ii (x1))] [] h := by
  unfold F_X12_wantsTruth_15 at H
  refine j_aload_n (dk dt_X12_wantsTruth 9 rfl) rfl ?_
  refine jm_getA (dk dt_X12_wantsTruth 10 rfl) fl_X12_126 rfl (c := 14) rfl m ?_
  refine j_iload_n (dk dt_X12_wantsTruth 11 rfl) rfl ?_
  obtain ⟨p_20, q_20, H⟩ := H
  refine jm_iald (dk dt_X12_wantsTruth 12 rfl) rfl rfl m p_20 q_20 ?_
  refine j_iconst (v := Int32.ofInt 3) (dk dt_X12_wantsTruth 13 rfl) (by decide) ?_
  refine jz_icmp_eq 31 (dk dt_X12_wantsTruth 14 rfl) (by decide) (m.2.1.1 _ _) (by decide) H (fun H => ?_) (fun H => ?_)
  · exact j_el (T_X12_wantsTruth_31 r_x1 m   H) (And.intro rfl (And.intro rfl trivial))
  · refine j_aload_n (dk dt_X12_wantsTruth 15 rfl) rfl ?_
    refine j_iload_n (dk dt_X12_wantsTruth 16 rfl) rfl ?_
    refine j_iconst (v := Int32.ofInt 3) (dk dt_X12_wantsTruth 17 rfl) (by decide) ?_
    refine jz_callV2 (dk dt_X12_wantsTruth 18 rfl) vl_X12_541 rfl (T_X12_error r_x1 (by decide) m H) m.1.1 rfl (by decide) (Nat.zero_le _) (Nat.zero_le _) (Nat.le_of_ble_eq_true rfl) (fun v_28 h_28 P_28 => ?_)
    obtain ⟨u_28, rfl, m_28, H⟩ := P_28
    dsimp only [rs]
    exact j_el (T_X12_wantsTruth_31 r_x1 m_28   H) (And.intro rfl (And.intro rfl trivial))
def F_X12_wantsTruth  (x1 : Int) (u : Mu) (P : Int → Mu → Prop) : Prop :=
  (0 ≤ x1 ∧ x1 < 200 ∧ (if mI u 66 x1 = 0 then F_X12_truth x1 0 u (fun u_12 => F_X12_wantsTruth_15 x1 u_12 P) else F_X12_wantsTruth_15 x1 u P))
theorem T_X12_wantsTruth  {x1 : Int} {u : Mu} {P : Int → Mu → Prop} {h : Hp} {g : Nat → Nat} (r_x1 : R32 x1) (m : Ms h g u)  (H : F_X12_wantsTruth x1 u P) : Con mX12_wantsTruth 2 0 0 [vr (some (g 0)), ii (x1)] h (QMI g P) := by
  refine con_of rfl (Nat.le_of_ble_eq_true rfl) (by decide) ?_
  show J mX12_wantsTruth 2 0 0 _ 0 [some (vr (some (g 0))), some (ii (x1))] [] h
  unfold F_X12_wantsTruth at H
  refine j_aload_n (dk dt_X12_wantsTruth 0 rfl) rfl ?_
  refine jm_getA (dk dt_X12_wantsTruth 1 rfl) fl_X12_126 rfl (c := 14) rfl m ?_
  refine j_iload_n (dk dt_X12_wantsTruth 2 rfl) rfl ?_
  obtain ⟨p_5, q_5, H⟩ := H
  refine jm_iald (dk dt_X12_wantsTruth 3 rfl) rfl rfl m p_5 q_5 ?_
  refine jz_if_ne 15 (dk dt_X12_wantsTruth 4 rfl) (by decide) (m.2.1.1 _ _) H (fun H => ?_) (fun H => ?_)
  · refine j_aload_n (dk dt_X12_wantsTruth 5 rfl) rfl ?_
    refine j_iload_n (dk dt_X12_wantsTruth 6 rfl) rfl ?_
    refine j_iconst (v := Int32.ofInt 0) (dk dt_X12_wantsTruth 7 rfl) (by decide) ?_
    refine jz_callV2 (dk dt_X12_wantsTruth 8 rfl) vl_X12_544 rfl (T_X12_truth r_x1 (by decide) m H) m.1.1 rfl (by decide) (Nat.zero_le _) (Nat.zero_le _) (Nat.le_of_ble_eq_true rfl) (fun v_12 h_12 P_12 => ?_)
    obtain ⟨u_12, rfl, m_12, H⟩ := P_12
    dsimp only [rs]
    exact j_el (T_X12_wantsTruth_15 r_x1 m_12   H) (And.intro rfl (And.intro rfl trivial))
  · exact j_el (T_X12_wantsTruth_15 r_x1 m   H) (And.intro rfl (And.intro rfl trivial))
def F_X12_countOne_88  (s0 : Int) (u : Mu) (P : Int → Mu → Prop) : Prop :=
  (Z1 s0 ∧ P s0 u)
theorem T_X12_countOne_88  {s0 : Int} {u : Mu} {P : Int → Mu → Prop} {h : Hp} {g : Nat → Nat} (r_s0 : R32 s0) (m : Ms h g u)   (H : F_X12_countOne_88 s0 u P) : J mX12_countOne 5 0 0 (nx (QMI g P)) 88 [none, none, none, none, none] [ii (s0)] h := by
  unfold F_X12_countOne_88 at H
  obtain ⟨hz_, H⟩ := H
  exact j_ireturn (dk dt_X12_countOne 51 rfl) rfl (nar_z hz_) ⟨_, _, rfl, r_s0, m, H⟩
def F_X12_countOne_78  (x4 : Int) (u : Mu) (P : Int → Mu → Prop) : Prop :=
  (if x4 = 0 then F_X12_countOne_88 1 u P else F_X12_countOne_88 0 u P)
theorem T_X12_countOne_78  {x4 : Int} {u : Mu} {P : Int → Mu → Prop} {h : Hp} {g : Nat → Nat} (r_x4 : R32 x4) (m : Ms h g u)   (H : F_X12_countOne_78 x4 u P) : J mX12_countOne 5 0 0 (nx (QMI g P)) 78 [none, none, none, none, some (ii (x4))] [] h := by
  unfold F_X12_countOne_78 at H
  refine j_iload (dk dt_X12_countOne 46 rfl) rfl ?_
  refine jz_if_ne 87 (dk dt_X12_countOne 47 rfl) (by decide) r_x4 H (fun H => ?_) (fun H => ?_)
  · refine j_iconst (v := Int32.ofInt 1) (dk dt_X12_countOne 48 rfl) (by decide) ?_
    refine j_goto 88 (dk dt_X12_countOne 49 rfl) (by decide) ?_
    exact j_el (T_X12_countOne_88 (by decide) m   H) trivial
  · refine j_iconst (v := Int32.ofInt 0) (dk dt_X12_countOne 50 rfl) (by decide) ?_
    exact j_el (T_X12_countOne_88 (by decide) m   H) trivial
def F_X12_countOne_60  (x1 : Int) (x3 : Int) (s0 : Int) (u : Mu) (P : Int → Mu → Prop) : Prop :=
  (0 ≤ x3 ∧ x3 < 200 ∧ (if mI u 66 x3 = 1 then F_X12_count x1 x3 u (fun u_75 => F_X12_countOne_78 s0 u_75 P) else F_X12_countOne_78 s0 u P))
theorem T_X12_countOne_60  {x1 : Int} {x3 : Int} {s0 : Int} {u : Mu} {P : Int → Mu → Prop} {h : Hp} {g : Nat → Nat} (r_x1 : R32 x1) (r_x3 : R32 x3) (r_s0 : R32 s0) (m : Ms h g u)   (H : F_X12_countOne_60 x1 x3 s0 u P) : J mX12_countOne 5 0 0 (nx (QMI g P)) 60 [some (vr (some (g 0))), some (ii (x1)), none, some (ii (x3)), none] [ii (s0)] h := by
  unfold F_X12_countOne_60 at H
  refine j_istore (dk dt_X12_countOne 35 rfl) (by decide) ?_
  refine j_aload_n (dk dt_X12_countOne 36 rfl) rfl ?_
  refine jm_getA (dk dt_X12_countOne 37 rfl) fl_X12_126 rfl (c := 14) rfl m ?_
  refine j_iload_n (dk dt_X12_countOne 38 rfl) rfl ?_
  obtain ⟨p_67, q_67, H⟩ := H
  refine jm_iald (dk dt_X12_countOne 39 rfl) rfl rfl m p_67 q_67 ?_
  refine j_iconst (v := Int32.ofInt 1) (dk dt_X12_countOne 40 rfl) (by decide) ?_
  refine jz_icmp_ne 78 (dk dt_X12_countOne 41 rfl) (by decide) (m.2.1.1 _ _) (by decide) H (fun H => ?_) (fun H => ?_)
  · refine j_aload_n (dk dt_X12_countOne 42 rfl) rfl ?_
    refine j_iload_n (dk dt_X12_countOne 43 rfl) rfl ?_
    refine j_iload_n (dk dt_X12_countOne 44 rfl) rfl ?_
    refine jz_callV2 (dk dt_X12_countOne 45 rfl) vl_X12_680 rfl (T_X12_count r_x1 r_x3 m H) m.1.1 rfl (by decide) (Nat.zero_le _) (Nat.zero_le _) (Nat.le_of_ble_eq_true rfl) (fun v_75 h_75 P_75 => ?_)
    obtain ⟨u_75, rfl, m_75, H⟩ := P_75
    dsimp only [rs]
    exact j_el (T_X12_countOne_78 r_s0 m_75   H) (And.intro rfl trivial)
  · exact j_el (T_X12_countOne_78 r_s0 m   H) (And.intro rfl trivial)
def F_X12_countOne_55  (x1 : Int) (x3 : Int) (u : Mu) (P : Int → Mu → Prop) : Prop :=
  F_X12_countOne_60 x1 x3 1 u P
theorem T_X12_countOne_55  {x1 : Int} {x3 : Int} {u : Mu} {P : Int → Mu → Prop} {h : Hp} {g : Nat → Nat} (r_x1 : R32 x1) (r_x3 : R32 x3) (m : Ms h g u)   (H : F_X12_countOne_55 x1 x3 u P) : J mX12_countOne 5 0 0 (nx (QMI g P)) 55 [some (vr (some (g 0))), some (ii (x1)), none, some (ii (x3)), none] [] h := by
  unfold F_X12_countOne_55 at H
  refine j_iconst (v := Int32.ofInt 1) (dk dt_X12_countOne 32 rfl) (by decide) ?_
  refine j_goto 60 (dk dt_X12_countOne 33 rfl) (by decide) ?_
  exact j_el (T_X12_countOne_60 r_x1 r_x3 (by decide) m   H) (And.intro rfl (And.intro rfl (And.intro rfl trivial)))
def F_X12_countOne_59  (x1 : Int) (x3 : Int) (u : Mu) (P : Int → Mu → Prop) : Prop :=
  F_X12_countOne_60 x1 x3 0 u P
theorem T_X12_countOne_59  {x1 : Int} {x3 : Int} {u : Mu} {P : Int → Mu → Prop} {h : Hp} {g : Nat → Nat} (r_x1 : R32 x1) (r_x3 : R32 x3) (m : Ms h g u)   (H : F_X12_countOne_59 x1 x3 u P) : J mX12_countOne 5 0 0 (nx (QMI g P)) 59 [some (vr (some (g 0))), some (ii (x1)), none, some (ii (x3)), none] [] h := by
  unfold F_X12_countOne_59 at H
  refine j_iconst (v := Int32.ofInt 0) (dk dt_X12_countOne 34 rfl) (by decide) ?_
  exact j_el (T_X12_countOne_60 r_x1 r_x3 (by decide) m   H) (And.intro rfl (And.intro rfl (And.intro rfl trivial)))
def F_X12_countOne_122  (x4 : Int) (u : Mu) (P : Int → Mu → Prop) : Prop :=
  (Z1 x4 ∧ P x4 u)
theorem T_X12_countOne_122  {x4 : Int} {u : Mu} {P : Int → Mu → Prop} {h : Hp} {g : Nat → Nat} (r_x4 : R32 x4) (m : Ms h g u)   (H : F_X12_countOne_122 x4 u P) : J mX12_countOne 5 0 0 (nx (QMI g P)) 122 [none, none, none, none, some (ii (x4))] [] h := by
  unfold F_X12_countOne_122 at H
  refine j_iload (dk dt_X12_countOne 69 rfl) rfl ?_
  obtain ⟨hz_, H⟩ := H
  exact j_ireturn (dk dt_X12_countOne 70 rfl) rfl (nar_z hz_) ⟨_, _, rfl, r_x4, m, H⟩
def F_X12_countOne_109  (x1 : Int) (x3 : Int) (s0 : Int) (u : Mu) (P : Int → Mu → Prop) : Prop :=
  (if s0 = 0 then F_X12_countOne_122 s0 u P else F_X12_count x1 x3 u (fun u_119 => F_X12_countOne_122 s0 u_119 P))
theorem T_X12_countOne_109  {x1 : Int} {x3 : Int} {s0 : Int} {u : Mu} {P : Int → Mu → Prop} {h : Hp} {g : Nat → Nat} (r_x1 : R32 x1) (r_x3 : R32 x3) (r_s0 : R32 s0) (m : Ms h g u)   (H : F_X12_countOne_109 x1 x3 s0 u P) : J mX12_countOne 5 0 0 (nx (QMI g P)) 109 [some (vr (some (g 0))), some (ii (x1)), none, some (ii (x3)), none] [ii (s0)] h := by
  unfold F_X12_countOne_109 at H
  refine j_istore (dk dt_X12_countOne 62 rfl) (by decide) ?_
  refine j_iload (dk dt_X12_countOne 63 rfl) rfl ?_
  refine jz_if_eq 122 (dk dt_X12_countOne 64 rfl) (by decide) r_s0 H (fun H => ?_) (fun H => ?_)
  · exact j_el (T_X12_countOne_122 r_s0 m   H) (And.intro rfl trivial)
  · refine j_aload_n (dk dt_X12_countOne 65 rfl) rfl ?_
    refine j_iload_n (dk dt_X12_countOne 66 rfl) rfl ?_
    refine j_iload_n (dk dt_X12_countOne 67 rfl) rfl ?_
    refine jz_callV2 (dk dt_X12_countOne 68 rfl) vl_X12_680 rfl (T_X12_count r_x1 r_x3 m H) m.1.1 rfl (by decide) (Nat.zero_le _) (Nat.zero_le _) (Nat.le_of_ble_eq_true rfl) (fun v_119 h_119 P_119 => ?_)
    obtain ⟨u_119, rfl, m_119, H⟩ := P_119
    dsimp only [rs]
    exact j_el (T_X12_countOne_122 r_s0 m_119   H) (And.intro rfl trivial)
def F_X12_countOne  (x1 : Int) (x2 : Int) (x3 : Int) (u : Mu) (P : Int → Mu → Prop) : Prop :=
  (if x1 = 36 then (0 ≤ x3 ∧ x3 < 200 ∧ (if mI u 66 x3 = 4 then (0 ≤ x3 ∧ x3 < 200 ∧ (if mG u 67 x3 = 1 then (0 ≤ x2 ∧ x2 < 60420 ∧ (if mI u 26 x2 = 4 then F_X12_countOne_55 x1 x3 u P else (if mI u 26 x2 = 5 then F_X12_isGone x2 u (fun x_49 => (if x_49 = 0 then F_X12_countOne_59 x1 x3 u P else F_X12_countOne_55 x1 x3 u P)) else F_X12_countOne_59 x1 x3 u P))) else F_X12_countOne_59 x1 x3 u P)) else F_X12_countOne_59 x1 x3 u P)) else F_X12_wantsTruths x1 (fun x_90 => (if x_90 = 0 then F_X12_wantsNumber x3 u (fun x_106 u_106 => F_X12_countOne_109 x1 x3 x_106 u_106 P) else F_X12_wantsTruth x3 u (fun x_98 u_98 => F_X12_countOne_109 x1 x3 x_98 u_98 P))))
theorem T_X12_countOne  {x1 : Int} {x2 : Int} {x3 : Int} {u : Mu} {P : Int → Mu → Prop} {h : Hp} {g : Nat → Nat} (r_x1 : R32 x1) (r_x2 : R32 x2) (r_x3 : R32 x3) (m : Ms h g u)  (H : F_X12_countOne x1 x2 x3 u P) : Con mX12_countOne 5 0 0 [vr (some (g 0)), ii (x1), ii (x2), ii (x3)] h (QMI g P) := by
  refine con_of rfl (Nat.le_of_ble_eq_true rfl) (by decide) ?_
  show J mX12_countOne 5 0 0 _ 0 [some (vr (some (g 0))), some (ii (x1)), some (ii (x2)), some (ii (x3)), none] [] h
  unfold F_X12_countOne at H
  refine j_iload_n (dk dt_X12_countOne 0 rfl) rfl ?_
  refine j_bipush (v := Int32.ofInt 36) (dk dt_X12_countOne 1 rfl) (by decide) ?_
  refine jz_icmp_ne 89 (dk dt_X12_countOne 2 rfl) (by decide) r_x1 (by decide) H (fun H => ?_) (fun H => ?_)
  · refine j_aload_n (dk dt_X12_countOne 3 rfl) rfl ?_
    refine jm_getA (dk dt_X12_countOne 4 rfl) fl_X12_126 rfl (c := 14) rfl m ?_
    refine j_iload_n (dk dt_X12_countOne 5 rfl) rfl ?_
    obtain ⟨p_11, q_11, H⟩ := H
    refine jm_iald (dk dt_X12_countOne 6 rfl) rfl rfl m p_11 q_11 ?_
    refine j_iconst (v := Int32.ofInt 4) (dk dt_X12_countOne 7 rfl) (by decide) ?_
    refine jz_icmp_ne 59 (dk dt_X12_countOne 8 rfl) (by decide) (m.2.1.1 _ _) (by decide) H (fun H => ?_) (fun H => ?_)
    · refine j_aload_n (dk dt_X12_countOne 9 rfl) rfl ?_
      refine jm_getA (dk dt_X12_countOne 10 rfl) fl_X12_129 rfl (c := 15) rfl m ?_
      refine j_iload_n (dk dt_X12_countOne 11 rfl) rfl ?_
      obtain ⟨p_21, q_21, H⟩ := H
      refine jm_lald (dk dt_X12_countOne 12 rfl) rfl rfl m p_21 q_21 ?_
      refine j_lconst (v := Int64.ofInt 1) (dk dt_X12_countOne 13 rfl) (by decide) ?_
      refine jz_lcmp (dk dt_X12_countOne 14 rfl) (m.2.1.2.1 _ _) (by decide) ?_
      refine jz_lif_ne 59 (dk dt_X12_countOne 15 rfl) (by decide) H (fun H => ?_) (fun H => ?_)
      · refine j_aload_n (dk dt_X12_countOne 16 rfl) rfl ?_
        refine jm_getA (dk dt_X12_countOne 17 rfl) fl_X12_67 rfl (c := 14) rfl m ?_
        refine j_iload_n (dk dt_X12_countOne 18 rfl) rfl ?_
        obtain ⟨p_32, q_32, H⟩ := H
        refine jm_iald (dk dt_X12_countOne 19 rfl) rfl rfl m p_32 q_32 ?_
        refine j_iconst (v := Int32.ofInt 4) (dk dt_X12_countOne 20 rfl) (by decide) ?_
        refine jz_icmp_eq 55 (dk dt_X12_countOne 21 rfl) (by decide) (m.2.1.1 _ _) (by decide) H (fun H => ?_) (fun H => ?_)
        · exact j_el (T_X12_countOne_55 r_x1 r_x3 m   H) (And.intro rfl (And.intro rfl (And.intro rfl trivial)))
        · refine j_aload_n (dk dt_X12_countOne 22 rfl) rfl ?_
          refine jm_getA (dk dt_X12_countOne 23 rfl) fl_X12_67 rfl (c := 14) rfl m ?_
          refine j_iload_n (dk dt_X12_countOne 24 rfl) rfl ?_
          refine jm_iald (dk dt_X12_countOne 25 rfl) rfl rfl m p_32 q_32 ?_
          refine j_iconst (v := Int32.ofInt 5) (dk dt_X12_countOne 26 rfl) (by decide) ?_
          refine jz_icmp_ne 59 (dk dt_X12_countOne 27 rfl) (by decide) (m.2.1.1 _ _) (by decide) H (fun H => ?_) (fun H => ?_)
          · refine j_aload_n (dk dt_X12_countOne 28 rfl) rfl ?_
            refine j_iload_n (dk dt_X12_countOne 29 rfl) rfl ?_
            refine jz_callV1 (dk dt_X12_countOne 30 rfl) vl_X12_683 rfl (T_X12_isGone r_x2 m H) m.1.1 rfl (by decide) (Nat.zero_le _) (Nat.zero_le _) (Nat.le_of_ble_eq_true rfl) (fun v_49 h_49 P_49 => ?_)
            obtain ⟨x_49, rfl, r_49, rfl, H⟩ := P_49
            dsimp only [rs]
            refine jz_if_eq 59 (dk dt_X12_countOne 31 rfl) (by decide) r_49 H (fun H => ?_) (fun H => ?_)
            · exact j_el (T_X12_countOne_59 r_x1 r_x3 m   H) (And.intro rfl (And.intro rfl (And.intro rfl trivial)))
            · exact j_el (T_X12_countOne_55 r_x1 r_x3 m   H) (And.intro rfl (And.intro rfl (And.intro rfl trivial)))
          · exact j_el (T_X12_countOne_59 r_x1 r_x3 m   H) (And.intro rfl (And.intro rfl (And.intro rfl trivial)))
      · exact j_el (T_X12_countOne_59 r_x1 r_x3 m   H) (And.intro rfl (And.intro rfl (And.intro rfl trivial)))
    · exact j_el (T_X12_countOne_59 r_x1 r_x3 m   H) (And.intro rfl (And.intro rfl (And.intro rfl trivial)))
  · refine j_iload_n (dk dt_X12_countOne 52 rfl) rfl ?_
    refine j_callS1 (dk dt_X12_countOne 53 rfl) sl_X12_677 (T_X12_wantsTruths r_x1 H) rfl (by decide) (Nat.zero_le _) (Nat.zero_le _) (Nat.le_of_ble_eq_true rfl) (fun v_90 h_90 P_90 => ?_)
    obtain ⟨x_90, rfl, r_90, rfl, H⟩ := P_90
    dsimp only [rs]
    refine jz_if_eq 104 (dk dt_X12_countOne 54 rfl) (by decide) r_90 H (fun H => ?_) (fun H => ?_)
    · refine j_aload_n (dk dt_X12_countOne 59 rfl) rfl ?_
      refine j_iload_n (dk dt_X12_countOne 60 rfl) rfl ?_
      refine jz_callV1 (dk dt_X12_countOne 61 rfl) vl_X12_591 rfl (T_X12_wantsNumber r_x3 m H) m.1.1 rfl (by decide) (Nat.zero_le _) (Nat.zero_le _) (Nat.le_of_ble_eq_true rfl) (fun v_106 h_106 P_106 => ?_)
      obtain ⟨x_106, u_106, rfl, r_106, m_106, H⟩ := P_106
      dsimp only [rs]
      exact j_el (T_X12_countOne_109 r_x1 r_x3 r_106 m_106   H) (And.intro rfl (And.intro rfl (And.intro rfl trivial)))
    · refine j_aload_n (dk dt_X12_countOne 55 rfl) rfl ?_
      refine j_iload_n (dk dt_X12_countOne 56 rfl) rfl ?_
      refine jz_callV1 (dk dt_X12_countOne 57 rfl) vl_X12_646 rfl (T_X12_wantsTruth r_x3 m H) m.1.1 rfl (by decide) (Nat.zero_le _) (Nat.zero_le _) (Nat.le_of_ble_eq_true rfl) (fun v_98 h_98 P_98 => ?_)
      obtain ⟨x_98, u_98, rfl, r_98, m_98, H⟩ := P_98
      dsimp only [rs]
      refine j_goto 109 (dk dt_X12_countOne 58 rfl) (by decide) ?_
      exact j_el (T_X12_countOne_109 r_x1 r_x3 r_98 m_98   H) (And.intro rfl (And.intro rfl (And.intro rfl trivial)))
def F_X12_decimal_27  (x1 : Int) (x3 : Int) (x5 : Int) (u : Mu) (P : (Int × Int × Mu) ⊕ ((Int × Mu)) → Prop) : Prop :=
  (0 ≤ w32 (20 - (w32 (x5 + 1))) ∧ w32 (20 - (w32 (x5 + 1))) < 20 ∧ (∀ u_50, u_50 = uI u 70 (w32 (20 - (w32 (x5 + 1)))) (w8 (w32 (w64 (48 + (w64 (Int.tmod x3 10)))))) → P (.inl (w64 (Int.tdiv x3 10), w32 (x5 + 1), u_50))))
theorem T_X12_decimal_27  {x1 : Int} {x3 : Int} {x5 : Int} {u : Mu} {P : (Int × Int × Mu) ⊕ ((Int × Mu)) → Prop} {h : Hp} {g : Nat → Nat} {post : Option Sv ⊕ String → Hp → Prop} (r_x1 : R64 x1) (r_x3 : R64 x3) (r_x5 : R32 x5) (m : Ms h g u)  (hl : ∀ (x3 : Int) (x5 : Int) (u : Mu) (h : Hp), P (.inl (x3, x5, u)) → Ms h g u → R64 x3 → R32 x5 → J mX12_decimal 1 0 0 post 16 [some (vr (some (g 0))), some (ll (x1)), none, some (ll (x3)), none, some (ii (x5))] [] h) (he0 : ∀ (x5 : Int) (u : Mu) (h : Hp), P (.inr (x5, u)) → Ms h g u → R32 x5 → J mX12_decimal 1 0 0 post 60 [some (vr (some (g 0))), some (ll (x1)), none, none, none, some (ii (x5))] [] h) (H : F_X12_decimal_27 x1 x3 x5 u P) : J mX12_decimal 1 0 0 (post) 27 [some (vr (some (g 0))), some (ll (x1)), none, some (ll (x3)), none, some (ii (x5))] [] h := by
  unfold F_X12_decimal_27 at H
  refine jz_iinc (dk dt_X12_decimal 17 rfl) rfl ?_
  refine j_aload_n (dk dt_X12_decimal 18 rfl) rfl ?_
  refine jm_getA (dk dt_X12_decimal 19 rfl) fl_X12_138 rfl (c := 13) rfl m ?_
  refine j_bipush (v := Int32.ofInt 20) (dk dt_X12_decimal 20 rfl) (by decide) ?_
  refine j_iload (dk dt_X12_decimal 21 rfl) rfl ?_
  refine jz_isub (dk dt_X12_decimal 22 rfl) ?_
  refine j_ldc2 (v := Int64.ofInt (48)) (dk dt_X12_decimal 23 rfl) (by exact kl_X12_288) ?_
  refine j_lload_n (dk dt_X12_decimal 24 rfl) rfl ?_
  refine j_ldc2 (v := Int64.ofInt (10)) (dk dt_X12_decimal 25 rfl) (by exact kl_X12_286) ?_
  refine jz_lrem (dk dt_X12_decimal 26 rfl) r_x3 (by decide) (by decide) ?_
  refine jz_ladd (dk dt_X12_decimal 27 rfl) ?_
  refine jz_l2i (dk dt_X12_decimal 28 rfl) ?_
  refine jz_i2b (dk dt_X12_decimal 29 rfl) ?_
  obtain ⟨p_50, q_50, H⟩ := H
  refine jm_bast (dk dt_X12_decimal 30 rfl) rfl rfl m p_50 q_50 (b8_w _) (fun h_50 m_50 => ?_)
  replace H := H _ rfl
  refine j_lload_n (dk dt_X12_decimal 31 rfl) rfl ?_
  refine j_ldc2 (v := Int64.ofInt (10)) (dk dt_X12_decimal 32 rfl) (by exact kl_X12_286) ?_
  refine jz_ldiv (dk dt_X12_decimal 33 rfl) r_x3 (by decide) (by decide) ?_
  refine j_lstore_n (dk dt_X12_decimal 34 rfl) (by decide) ?_
  refine j_goto 16 (dk dt_X12_decimal 35 rfl) (by decide) ?_
  exact j_el (hl _ _ _ _ H m_50 (r64_w _) (r32_w _)) (And.intro rfl (And.intro rfl (And.intro rfl (And.intro rfl trivial))))
def L_X12_decimal_16  (x1 : Int) (x3 : Int) (x5 : Int) (u : Mu) (P : (Int × Int × Mu) ⊕ ((Int × Mu)) → Prop) : Prop :=
  (if 0 < x3 then F_X12_decimal_27 x1 x3 x5 u P else (if x5 = 0 then F_X12_decimal_27 x1 x3 x5 u P else P (.inr (x5, u))))
theorem U_X12_decimal_16  {x1 : Int} {x3 : Int} {x5 : Int} {u : Mu} {P : (Int × Int × Mu) ⊕ ((Int × Mu)) → Prop} {h : Hp} {g : Nat → Nat} {post : Option Sv ⊕ String → Hp → Prop} (r_x1 : R64 x1) (r_x3 : R64 x3) (r_x5 : R32 x5) (m : Ms h g u)  (hl : ∀ (x3 : Int) (x5 : Int) (u : Mu) (h : Hp), P (.inl (x3, x5, u)) → Ms h g u → R64 x3 → R32 x5 → J mX12_decimal 1 0 0 post 16 [some (vr (some (g 0))), some (ll (x1)), none, some (ll (x3)), none, some (ii (x5))] [] h) (he0 : ∀ (x5 : Int) (u : Mu) (h : Hp), P (.inr (x5, u)) → Ms h g u → R32 x5 → J mX12_decimal 1 0 0 post 60 [some (vr (some (g 0))), some (ll (x1)), none, none, none, some (ii (x5))] [] h) (H : L_X12_decimal_16 x1 x3 x5 u P) : J mX12_decimal 1 0 0 post 16 [some (vr (some (g 0))), some (ll (x1)), none, some (ll (x3)), none, some (ii (x5))] [] h := by
  unfold L_X12_decimal_16 at H
  refine j_lload_n (dk dt_X12_decimal 11 rfl) rfl ?_
  refine j_lconst (v := Int64.ofInt 0) (dk dt_X12_decimal 12 rfl) (by decide) ?_
  refine jz_lcmp (dk dt_X12_decimal 13 rfl) r_x3 (by decide) ?_
  refine jz_lif_gt 27 (dk dt_X12_decimal 14 rfl) (by decide) H (fun H => ?_) (fun H => ?_)
  · exact j_el (T_X12_decimal_27 r_x1 r_x3 r_x5 m  hl he0 H) (And.intro rfl (And.intro rfl (And.intro rfl (And.intro rfl trivial))))
  · refine j_iload (dk dt_X12_decimal 15 rfl) rfl ?_
    refine jz_if_ne 60 (dk dt_X12_decimal 16 rfl) (by decide) r_x5 H (fun H => ?_) (fun H => ?_)
    · exact j_el (T_X12_decimal_27 r_x1 r_x3 r_x5 m  hl he0 H) (And.intro rfl (And.intro rfl (And.intro rfl (And.intro rfl trivial))))
    · exact j_el (he0 _ _ _ H m r_x5) (And.intro rfl (And.intro rfl (And.intro rfl trivial)))
def F_X12_decimal_81  (x5 : Int) (u : Mu) (P : Int → Mu → Prop) : Prop :=
  P x5 u
theorem T_X12_decimal_81  {x5 : Int} {u : Mu} {P : Int → Mu → Prop} {h : Hp} {g : Nat → Nat} (r_x5 : R32 x5) (m : Ms h g u)   (H : F_X12_decimal_81 x5 u P) : J mX12_decimal 1 0 0 (nx (QMI g P)) 81 [none, none, none, none, none, some (ii (x5))] [] h := by
  unfold F_X12_decimal_81 at H
  refine j_iload (dk dt_X12_decimal 48 rfl) rfl ?_
  exact j_ireturn (dk dt_X12_decimal 49 rfl) rfl rfl ⟨_, _, rfl, r_x5, m, H⟩
def F_X12_decimal_16  (x1 : Int) (x3 : Int) (x5 : Int) (u : Mu) (P : Int → Mu → Prop) : Prop :=
  lp (S := Int × Int × Mu) (E := (Int × Mu)) (fun q P_ => L_X12_decimal_16 x1 q.1 q.2.1 q.2.2 P_) (x3, x5, u) (fun e => match e with | (x5, u) => (if 0 ≤ x1 then F_X12_decimal_81 x5 u P else (0 ≤ w32 (20 - (w32 (x5 + 1))) ∧ w32 (20 - (w32 (x5 + 1))) < 20 ∧ (∀ u_80, u_80 = uI u 70 (w32 (20 - (w32 (x5 + 1)))) 45 → F_X12_decimal_81 (w32 (x5 + 1)) u_80 P))))
theorem T_X12_decimal_16  {x1 : Int} {x3 : Int} {x5 : Int} {u : Mu} {P : Int → Mu → Prop} {h : Hp} {g : Nat → Nat} (r_x1 : R64 x1) (r_x3 : R64 x3) (r_x5 : R32 x5) (m : Ms h g u)   (H : F_X12_decimal_16 x1 x3 x5 u P) : J mX12_decimal 1 0 0 (nx (QMI g P)) 16 [some (vr (some (g 0))), some (ll (x1)), none, some (ll (x3)), none, some (ii (x5))] [] h := by
  unfold F_X12_decimal_16 at H
  refine lp_J (G := fun q => ∀ h : Hp, Ms h g (q.2.2) → R64 (q.1) → R32 (q.2.1) → J mX12_decimal 1 0 0 (nx (QMI g P)) 16 [some (vr (some (g 0))), some (ll (x1)), none, some (ll ((q.1))), none, some (ii ((q.2.1)))] [] h) (fun q P_ hl_ he_ Hb => ?_) (x3, x5, u) H _ m r_x3 r_x5
  obtain ⟨x3, x5, u⟩ := q
  intro h m r_x3 r_x5
  refine U_X12_decimal_16 (P := P_) r_x1 r_x3 r_x5 m  (fun x3 x5 u h Hp m r_x3 r_x5 => hl_ (x3, x5, u) Hp h m r_x3 r_x5) ?_ Hb
  · intro x5 u h Hp m r_x5
    have H := he_ _ Hp
    refine j_lload_n (dk dt_X12_decimal 36 rfl) rfl ?_
    refine j_lconst (v := Int64.ofInt 0) (dk dt_X12_decimal 37 rfl) (by decide) ?_
    refine jz_lcmp (dk dt_X12_decimal 38 rfl) r_x1 (by decide) ?_
    refine jz_lif_ge 81 (dk dt_X12_decimal 39 rfl) (by decide) H (fun H => ?_) (fun H => ?_)
    · exact j_el (T_X12_decimal_81 r_x5 m   H) (And.intro rfl trivial)
    · refine jz_iinc (dk dt_X12_decimal 40 rfl) rfl ?_
      refine j_aload_n (dk dt_X12_decimal 41 rfl) rfl ?_
      refine jm_getA (dk dt_X12_decimal 42 rfl) fl_X12_138 rfl (c := 13) rfl m ?_
      refine j_bipush (v := Int32.ofInt 20) (dk dt_X12_decimal 43 rfl) (by decide) ?_
      refine j_iload (dk dt_X12_decimal 44 rfl) rfl ?_
      refine jz_isub (dk dt_X12_decimal 45 rfl) ?_
      refine j_bipush (v := Int32.ofInt 45) (dk dt_X12_decimal 46 rfl) (by decide) ?_
      obtain ⟨p_80, q_80, H⟩ := H
      refine jm_bast (dk dt_X12_decimal 47 rfl) rfl rfl m p_80 q_80 (by decide) (fun h_80 m_80 => ?_)
      replace H := H _ rfl
      exact j_el (T_X12_decimal_81 (r32_w _) m_80   H) (And.intro rfl trivial)
def F_X12_decimal_12  (x1 : Int) (s0 : Int) (u : Mu) (P : Int → Mu → Prop) : Prop :=
  F_X12_decimal_16 x1 s0 0 u P
theorem T_X12_decimal_12  {x1 : Int} {s0 : Int} {u : Mu} {P : Int → Mu → Prop} {h : Hp} {g : Nat → Nat} (r_x1 : R64 x1) (r_s0 : R64 s0) (m : Ms h g u)   (H : F_X12_decimal_12 x1 s0 u P) : J mX12_decimal 1 0 0 (nx (QMI g P)) 12 [some (vr (some (g 0))), some (ll (x1)), none, none, none, none] [ll (s0)] h := by
  unfold F_X12_decimal_12 at H
  refine j_lstore_n (dk dt_X12_decimal 8 rfl) (by decide) ?_
  refine j_iconst (v := Int32.ofInt 0) (dk dt_X12_decimal 9 rfl) (by decide) ?_
  refine j_istore (dk dt_X12_decimal 10 rfl) (by decide) ?_
  exact j_el (T_X12_decimal_16 r_x1 r_s0 (by decide) m   H) (And.intro rfl (And.intro rfl (And.intro rfl (And.intro rfl trivial))))
def F_X12_decimal  (x1 : Int) (u : Mu) (P : Int → Mu → Prop) : Prop :=
  (if 0 ≤ x1 then F_X12_decimal_12 x1 x1 u P else F_X12_decimal_12 x1 (w64 (-x1)) u P)
theorem T_X12_decimal  {x1 : Int} {u : Mu} {P : Int → Mu → Prop} {h : Hp} {g : Nat → Nat} (r_x1 : R64 x1) (m : Ms h g u)  (H : F_X12_decimal x1 u P) : Con mX12_decimal 1 0 0 [vr (some (g 0)), ll (x1)] h (QMI g P) := by
  refine con_of rfl (Nat.le_of_ble_eq_true rfl) (by decide) ?_
  show J mX12_decimal 1 0 0 _ 0 [some (vr (some (g 0))), some (ll (x1)), none, none, none, none] [] h
  unfold F_X12_decimal at H
  refine j_lload_n (dk dt_X12_decimal 0 rfl) rfl ?_
  refine j_lconst (v := Int64.ofInt 0) (dk dt_X12_decimal 1 rfl) (by decide) ?_
  refine jz_lcmp (dk dt_X12_decimal 2 rfl) r_x1 (by decide) ?_
  refine jz_lif_ge 11 (dk dt_X12_decimal 3 rfl) (by decide) H (fun H => ?_) (fun H => ?_)
  · refine j_lload_n (dk dt_X12_decimal 7 rfl) rfl ?_
    exact j_el (T_X12_decimal_12 r_x1 r_x1 m   H) (And.intro rfl (And.intro rfl trivial))
  · refine j_lload_n (dk dt_X12_decimal 4 rfl) rfl ?_
    refine jz_lneg (dk dt_X12_decimal 5 rfl) ?_
    refine j_goto 12 (dk dt_X12_decimal 6 rfl) (by decide) ?_
    exact j_el (T_X12_decimal_12 r_x1 (r64_w _) m   H) (And.intro rfl (And.intro rfl trivial))
def F_X12_differ  (x1 : Int) (x2 : Int) (x3 : Int) (u : Mu) (P : Mu → Prop) : Prop :=
  (0 ≤ mI u 0 104 ∧ mI u 0 104 < 410 ∧ (∀ u_9, u_9 = uI u 101 (mI u 0 104) x1 → (0 ≤ mI u_9 0 104 ∧ mI u_9 0 104 < 410 ∧ (∀ u_19, u_19 = uI u_9 102 (mI u_9 0 104) x2 → (0 ≤ mI u_19 0 104 ∧ mI u_19 0 104 < 410 ∧ (∀ u_29, u_29 = uI u_19 103 (mI u_19 0 104) x3 → (∀ u_37, u_37 = uI u_29 0 104 (w32 (mI u_29 0 104 + 1)) → P u_37)))))))
theorem T_X12_differ  {x1 : Int} {x2 : Int} {x3 : Int} {u : Mu} {P : Mu → Prop} {h : Hp} {g : Nat → Nat} (r_x1 : R32 x1) (r_x2 : R32 x2) (r_x3 : R32 x3) (m : Ms h g u)  (H : F_X12_differ x1 x2 x3 u P) : Con mX12_differ 1 0 0 [vr (some (g 0)), ii (x1), ii (x2), ii (x3)] h (QMV g P) := by
  refine con_of rfl (Nat.le_of_ble_eq_true rfl) (by decide) ?_
  show J mX12_differ 1 0 0 _ 0 [some (vr (some (g 0))), some (ii (x1)), some (ii (x2)), some (ii (x3))] [] h
  unfold F_X12_differ at H
  refine j_aload_n (dk dt_X12_differ 0 rfl) rfl ?_
  refine jm_getA (dk dt_X12_differ 1 rfl) fl_X12_189 rfl (c := 14) rfl m ?_
  refine j_aload_n (dk dt_X12_differ 2 rfl) rfl ?_
  refine jm_getI (kz := 104) (dk dt_X12_differ 3 rfl) fl_X12_939 rfl rfl m ?_
  refine j_iload_n (dk dt_X12_differ 4 rfl) rfl ?_
  obtain ⟨p_9, q_9, H⟩ := H
  refine jm_iast (dk dt_X12_differ 5 rfl) rfl rfl m p_9 q_9 r_x1 (fun h_9 m_9 => ?_)
  replace H := H _ rfl
  refine j_aload_n (dk dt_X12_differ 6 rfl) rfl ?_
  refine jm_getA (dk dt_X12_differ 7 rfl) fl_X12_192 rfl (c := 14) rfl m_9 ?_
  refine j_aload_n (dk dt_X12_differ 8 rfl) rfl ?_
  refine jm_getI (kz := 104) (dk dt_X12_differ 9 rfl) fl_X12_939 rfl rfl m_9 ?_
  refine j_iload_n (dk dt_X12_differ 10 rfl) rfl ?_
  obtain ⟨p_19, q_19, H⟩ := H
  refine jm_iast (dk dt_X12_differ 11 rfl) rfl rfl m_9 p_19 q_19 r_x2 (fun h_19 m_19 => ?_)
  replace H := H _ rfl
  refine j_aload_n (dk dt_X12_differ 12 rfl) rfl ?_
  refine jm_getA (dk dt_X12_differ 13 rfl) fl_X12_195 rfl (c := 14) rfl m_19 ?_
  refine j_aload_n (dk dt_X12_differ 14 rfl) rfl ?_
  refine jm_getI (kz := 104) (dk dt_X12_differ 15 rfl) fl_X12_939 rfl rfl m_19 ?_
  refine j_iload_n (dk dt_X12_differ 16 rfl) rfl ?_
  obtain ⟨p_29, q_29, H⟩ := H
  refine jm_iast (dk dt_X12_differ 17 rfl) rfl rfl m_19 p_29 q_29 r_x3 (fun h_29 m_29 => ?_)
  replace H := H _ rfl
  refine j_aload_n (dk dt_X12_differ 18 rfl) rfl ?_
  refine j_dup (dk dt_X12_differ 19 rfl) rfl ?_
  refine jm_getI (kz := 104) (dk dt_X12_differ 20 rfl) fl_X12_939 rfl rfl m_29 ?_
  refine j_iconst (v := Int32.ofInt 1) (dk dt_X12_differ 21 rfl) (by decide) ?_
  refine jz_iadd (dk dt_X12_differ 22 rfl) ?_
  refine jm_putI (kz := 104) (dk dt_X12_differ 23 rfl) fl_X12_939 rfl rfl rfl rfl m_29 (r32_w _) (fun h_37 m_37 => ?_)
  replace H := H _ rfl
  exact j_return (dk dt_X12_differ 24 rfl) rfl ⟨_, rfl, m_37, H⟩
def F_X12_linesAlone_61  (x1 : Int) (x2 : Int) (x3 : Int) (x4 : Int) (x5 : Int) (u : Mu) (P : (Int × Mu) ⊕ ((Mu)) → Prop) : Prop :=
  P (.inl (w32 (x5 + 1), u))
theorem T_X12_linesAlone_61  {x1 : Int} {x2 : Int} {x3 : Int} {x4 : Int} {x5 : Int} {u : Mu} {P : (Int × Mu) ⊕ ((Mu)) → Prop} {h : Hp} {g : Nat → Nat} {post : Option Sv ⊕ String → Hp → Prop} (r_x1 : R32 x1) (r_x2 : R32 x2) (r_x3 : R32 x3) (r_x4 : R32 x4) (r_x5 : R32 x5) (m : Ms h g u)  (hl : ∀ (x5 : Int) (u : Mu) (h : Hp), P (.inl (x5, u)) → Ms h g u → R32 x5 → J mX12_linesAlone 3 0 0 post 3 [some (vr (some (g 0))), some (ii (x1)), some (ii (x2)), some (ii (x3)), some (ii (x4)), some (ii (x5))] [] h) (he0 : ∀ (u : Mu) (h : Hp), P (.inr u) → Ms h g u → J mX12_linesAlone 3 0 0 post 67 [none, none, none, none, none, none] [] h) (H : F_X12_linesAlone_61 x1 x2 x3 x4 x5 u P) : J mX12_linesAlone 3 0 0 (post) 61 [some (vr (some (g 0))), some (ii (x1)), some (ii (x2)), some (ii (x3)), some (ii (x4)), some (ii (x5))] [] h := by
  unfold F_X12_linesAlone_61 at H
  refine jz_iinc (dk dt_X12_linesAlone 35 rfl) rfl ?_
  refine j_goto 3 (dk dt_X12_linesAlone 36 rfl) (by decide) ?_
  exact j_el (hl _ _ _ H m (r32_w _)) (And.intro rfl (And.intro rfl (And.intro rfl (And.intro rfl (And.intro rfl (And.intro rfl trivial))))))
def F_X12_linesAlone_58  (x1 : Int) (x2 : Int) (x3 : Int) (x4 : Int) (x5 : Int) (s1 : Int) (s2 : Int) (s3 : Int) (u : Mu) (P : (Int × Mu) ⊕ ((Mu)) → Prop) : Prop :=
  F_X12_differ s1 s2 s3 u (fun u_58 => F_X12_linesAlone_61 x1 x2 x3 x4 x5 u_58 P)
theorem T_X12_linesAlone_58  {x1 : Int} {x2 : Int} {x3 : Int} {x4 : Int} {x5 : Int} {s1 : Int} {s2 : Int} {s3 : Int} {u : Mu} {P : (Int × Mu) ⊕ ((Mu)) → Prop} {h : Hp} {g : Nat → Nat} {post : Option Sv ⊕ String → Hp → Prop} (r_x1 : R32 x1) (r_x2 : R32 x2) (r_x3 : R32 x3) (r_x4 : R32 x4) (r_x5 : R32 x5) (r_s1 : R32 s1) (r_s2 : R32 s2) (r_s3 : R32 s3) (m : Ms h g u)  (hl : ∀ (x5 : Int) (u : Mu) (h : Hp), P (.inl (x5, u)) → Ms h g u → R32 x5 → J mX12_linesAlone 3 0 0 post 3 [some (vr (some (g 0))), some (ii (x1)), some (ii (x2)), some (ii (x3)), some (ii (x4)), some (ii (x5))] [] h) (he0 : ∀ (u : Mu) (h : Hp), P (.inr u) → Ms h g u → J mX12_linesAlone 3 0 0 post 67 [none, none, none, none, none, none] [] h) (H : F_X12_linesAlone_58 x1 x2 x3 x4 x5 s1 s2 s3 u P) : J mX12_linesAlone 3 0 0 (post) 58 [some (vr (some (g 0))), some (ii (x1)), some (ii (x2)), some (ii (x3)), some (ii (x4)), some (ii (x5))] [ii (s3), ii (s2), ii (s1), vr (some (g 0))] h := by
  unfold F_X12_linesAlone_58 at H
  refine jz_callV3 (dk dt_X12_linesAlone 34 rfl) vl_X12_942 rfl (T_X12_differ r_s1 r_s2 r_s3 m H) m.1.1 rfl (by decide) (Nat.zero_le _) (Nat.zero_le _) (Nat.le_of_ble_eq_true rfl) (fun v_58 h_58 P_58 => ?_)
  obtain ⟨u_58, rfl, m_58, H⟩ := P_58
  dsimp only [rs]
  exact j_el (T_X12_linesAlone_61 r_x1 r_x2 r_x3 r_x4 r_x5 m_58  hl he0 H) (And.intro rfl (And.intro rfl (And.intro rfl (And.intro rfl (And.intro rfl (And.intro rfl trivial))))))
def F_X12_linesAlone_46  (x1 : Int) (x2 : Int) (x3 : Int) (x4 : Int) (x5 : Int) (s1 : Int) (s2 : Int) (u : Mu) (P : (Int × Mu) ⊕ ((Mu)) → Prop) : Prop :=
  (if x3 = 0 then F_X12_linesAlone_58 x1 x2 x3 x4 x5 s1 s2 0 u P else F_X12_linesAlone_58 x1 x2 x3 x4 x5 s1 s2 (w32 (x5 + 1)) u P)
theorem T_X12_linesAlone_46  {x1 : Int} {x2 : Int} {x3 : Int} {x4 : Int} {x5 : Int} {s1 : Int} {s2 : Int} {u : Mu} {P : (Int × Mu) ⊕ ((Mu)) → Prop} {h : Hp} {g : Nat → Nat} {post : Option Sv ⊕ String → Hp → Prop} (r_x1 : R32 x1) (r_x2 : R32 x2) (r_x3 : R32 x3) (r_x4 : R32 x4) (r_x5 : R32 x5) (r_s1 : R32 s1) (r_s2 : R32 s2) (m : Ms h g u)  (hl : ∀ (x5 : Int) (u : Mu) (h : Hp), P (.inl (x5, u)) → Ms h g u → R32 x5 → J mX12_linesAlone 3 0 0 post 3 [some (vr (some (g 0))), some (ii (x1)), some (ii (x2)), some (ii (x3)), some (ii (x4)), some (ii (x5))] [] h) (he0 : ∀ (u : Mu) (h : Hp), P (.inr u) → Ms h g u → J mX12_linesAlone 3 0 0 post 67 [none, none, none, none, none, none] [] h) (H : F_X12_linesAlone_46 x1 x2 x3 x4 x5 s1 s2 u P) : J mX12_linesAlone 3 0 0 (post) 46 [some (vr (some (g 0))), some (ii (x1)), some (ii (x2)), some (ii (x3)), some (ii (x4)), some (ii (x5))] [ii (s2), ii (s1), vr (some (g 0))] h := by
  unfold F_X12_linesAlone_46 at H
  refine j_iload_n (dk dt_X12_linesAlone 27 rfl) rfl ?_
  refine jz_if_ne 54 (dk dt_X12_linesAlone 28 rfl) (by decide) r_x3 H (fun H => ?_) (fun H => ?_)
  · refine j_iconst (v := Int32.ofInt 0) (dk dt_X12_linesAlone 29 rfl) (by decide) ?_
    refine j_goto 58 (dk dt_X12_linesAlone 30 rfl) (by decide) ?_
    exact j_el (T_X12_linesAlone_58 r_x1 r_x2 r_x3 r_x4 r_x5 r_s1 r_s2 (by decide) m  hl he0 H) (And.intro rfl (And.intro rfl (And.intro rfl (And.intro rfl (And.intro rfl (And.intro rfl trivial))))))
  · refine j_iload (dk dt_X12_linesAlone 31 rfl) rfl ?_
    refine j_iconst (v := Int32.ofInt 1) (dk dt_X12_linesAlone 32 rfl) (by decide) ?_
    refine jz_iadd (dk dt_X12_linesAlone 33 rfl) ?_
    exact j_el (T_X12_linesAlone_58 r_x1 r_x2 r_x3 r_x4 r_x5 r_s1 r_s2 (r32_w _) m  hl he0 H) (And.intro rfl (And.intro rfl (And.intro rfl (And.intro rfl (And.intro rfl (And.intro rfl trivial))))))
def L_X12_linesAlone_3  (x1 : Int) (x2 : Int) (x3 : Int) (x4 : Int) (x5 : Int) (u : Mu) (P : (Int × Mu) ⊕ ((Mu)) → Prop) : Prop :=
  F_X12_linesOf x1 x3 u (fun x_8 => (if x_8 ≤ x5 then P (.inr u) else F_X12_lineAt x1 x3 x5 u (fun x_22 => F_X12_placeOf x2 x3 x_22 u (fun x_25 => (if 0 ≤ x_25 then F_X12_linesAlone_61 x1 x2 x3 x4 x5 u P else (if x3 = 0 then F_X12_linesAlone_46 x1 x2 x3 x4 x5 x4 (w32 (x5 + 1)) u P else F_X12_linesAlone_46 x1 x2 x3 x4 x5 x4 0 u P))))))
theorem U_X12_linesAlone_3  {x1 : Int} {x2 : Int} {x3 : Int} {x4 : Int} {x5 : Int} {u : Mu} {P : (Int × Mu) ⊕ ((Mu)) → Prop} {h : Hp} {g : Nat → Nat} {post : Option Sv ⊕ String → Hp → Prop} (r_x1 : R32 x1) (r_x2 : R32 x2) (r_x3 : R32 x3) (r_x4 : R32 x4) (r_x5 : R32 x5) (m : Ms h g u)  (hl : ∀ (x5 : Int) (u : Mu) (h : Hp), P (.inl (x5, u)) → Ms h g u → R32 x5 → J mX12_linesAlone 3 0 0 post 3 [some (vr (some (g 0))), some (ii (x1)), some (ii (x2)), some (ii (x3)), some (ii (x4)), some (ii (x5))] [] h) (he0 : ∀ (u : Mu) (h : Hp), P (.inr u) → Ms h g u → J mX12_linesAlone 3 0 0 post 67 [none, none, none, none, none, none] [] h) (H : L_X12_linesAlone_3 x1 x2 x3 x4 x5 u P) : J mX12_linesAlone 3 0 0 post 3 [some (vr (some (g 0))), some (ii (x1)), some (ii (x2)), some (ii (x3)), some (ii (x4)), some (ii (x5))] [] h := by
  unfold L_X12_linesAlone_3 at H
  refine j_iload (dk dt_X12_linesAlone 2 rfl) rfl ?_
  refine j_aload_n (dk dt_X12_linesAlone 3 rfl) rfl ?_
  refine j_iload_n (dk dt_X12_linesAlone 4 rfl) rfl ?_
  refine j_iload_n (dk dt_X12_linesAlone 5 rfl) rfl ?_
  refine jz_callV2 (dk dt_X12_linesAlone 6 rfl) vl_X12_209 rfl (T_X12_linesOf r_x1 r_x3 m H) m.1.1 rfl (by decide) (Nat.zero_le _) (Nat.zero_le _) (Nat.le_of_ble_eq_true rfl) (fun v_8 h_8 P_8 => ?_)
  obtain ⟨x_8, rfl, r_8, rfl, H⟩ := P_8
  dsimp only [rs]
  refine jz_icmp_ge 67 (dk dt_X12_linesAlone 7 rfl) (by decide) r_x5 r_8 H (fun H => ?_) (fun H => ?_)
  · exact j_el (he0 _ _ H m) trivial
  · refine j_aload_n (dk dt_X12_linesAlone 8 rfl) rfl ?_
    refine j_iload_n (dk dt_X12_linesAlone 9 rfl) rfl ?_
    refine j_iload_n (dk dt_X12_linesAlone 10 rfl) rfl ?_
    refine j_aload_n (dk dt_X12_linesAlone 11 rfl) rfl ?_
    refine j_iload_n (dk dt_X12_linesAlone 12 rfl) rfl ?_
    refine j_iload_n (dk dt_X12_linesAlone 13 rfl) rfl ?_
    refine j_iload (dk dt_X12_linesAlone 14 rfl) rfl ?_
    refine jz_callV3 (dk dt_X12_linesAlone 15 rfl) vl_X12_213 rfl (T_X12_lineAt r_x1 r_x3 r_x5 m H) m.1.1 rfl (by decide) (Nat.zero_le _) (Nat.zero_le _) (Nat.le_of_ble_eq_true rfl) (fun v_22 h_22 P_22 => ?_)
    obtain ⟨x_22, rfl, r_22, rfl, H⟩ := P_22
    dsimp only [rs]
    refine jz_callV3 (dk dt_X12_linesAlone 16 rfl) vl_X12_217 rfl (T_X12_placeOf r_x2 r_x3 r_22 m H) m.1.1 rfl (by decide) (Nat.zero_le _) (Nat.zero_le _) (Nat.le_of_ble_eq_true rfl) (fun v_25 h_25 P_25 => ?_)
    obtain ⟨x_25, rfl, r_25, rfl, H⟩ := P_25
    dsimp only [rs]
    refine jz_if_ge 61 (dk dt_X12_linesAlone 17 rfl) (by decide) r_25 H (fun H => ?_) (fun H => ?_)
    · exact j_el (T_X12_linesAlone_61 r_x1 r_x2 r_x3 r_x4 r_x5 m  hl he0 H) (And.intro rfl (And.intro rfl (And.intro rfl (And.intro rfl (And.intro rfl (And.intro rfl trivial))))))
    · refine j_aload_n (dk dt_X12_linesAlone 18 rfl) rfl ?_
      refine j_iload (dk dt_X12_linesAlone 19 rfl) rfl ?_
      refine j_iload_n (dk dt_X12_linesAlone 20 rfl) rfl ?_
      refine jz_if_ne 45 (dk dt_X12_linesAlone 21 rfl) (by decide) r_x3 H (fun H => ?_) (fun H => ?_)
      · refine j_iload (dk dt_X12_linesAlone 22 rfl) rfl ?_
        refine j_iconst (v := Int32.ofInt 1) (dk dt_X12_linesAlone 23 rfl) (by decide) ?_
        refine jz_iadd (dk dt_X12_linesAlone 24 rfl) ?_
        refine j_goto 46 (dk dt_X12_linesAlone 25 rfl) (by decide) ?_
        exact j_el (T_X12_linesAlone_46 r_x1 r_x2 r_x3 r_x4 r_x5 r_x4 (r32_w _) m  hl he0 H) (And.intro rfl (And.intro rfl (And.intro rfl (And.intro rfl (And.intro rfl (And.intro rfl trivial))))))
      · refine j_iconst (v := Int32.ofInt 0) (dk dt_X12_linesAlone 26 rfl) (by decide) ?_
        exact j_el (T_X12_linesAlone_46 r_x1 r_x2 r_x3 r_x4 r_x5 r_x4 (by decide) m  hl he0 H) (And.intro rfl (And.intro rfl (And.intro rfl (And.intro rfl (And.intro rfl (And.intro rfl trivial))))))
def F_X12_linesAlone_3  (x1 : Int) (x2 : Int) (x3 : Int) (x4 : Int) (x5 : Int) (u : Mu) (P : Mu → Prop) : Prop :=
  lp (S := Int × Mu) (E := (Mu)) (fun q P_ => L_X12_linesAlone_3 x1 x2 x3 x4 q.1 q.2 P_) (x5, u) (fun (u : Mu) => P u)
theorem T_X12_linesAlone_3  {x1 : Int} {x2 : Int} {x3 : Int} {x4 : Int} {x5 : Int} {u : Mu} {P : Mu → Prop} {h : Hp} {g : Nat → Nat} (r_x1 : R32 x1) (r_x2 : R32 x2) (r_x3 : R32 x3) (r_x4 : R32 x4) (r_x5 : R32 x5) (m : Ms h g u)   (H : F_X12_linesAlone_3 x1 x2 x3 x4 x5 u P) : J mX12_linesAlone 3 0 0 (nx (QMV g P)) 3 [some (vr (some (g 0))), some (ii (x1)), some (ii (x2)), some (ii (x3)), some (ii (x4)), some (ii (x5))] [] h := by
  unfold F_X12_linesAlone_3 at H
  refine lp_J (G := fun q => ∀ h : Hp, Ms h g (q.2) → R32 (q.1) → J mX12_linesAlone 3 0 0 (nx (QMV g P)) 3 [some (vr (some (g 0))), some (ii (x1)), some (ii (x2)), some (ii (x3)), some (ii (x4)), some (ii ((q.1)))] [] h) (fun q P_ hl_ he_ Hb => ?_) (x5, u) H _ m r_x5
  obtain ⟨x5, u⟩ := q
  intro h m r_x5
  refine U_X12_linesAlone_3 (P := P_) r_x1 r_x2 r_x3 r_x4 r_x5 m  (fun x5 u h Hp m r_x5 => hl_ (x5, u) Hp h m r_x5) ?_ Hb
  · intro u h Hp m
    have H := he_ _ Hp
    exact j_return (dk dt_X12_linesAlone 37 rfl) rfl ⟨_, rfl, m, H⟩
def F_X12_linesAlone  (x1 : Int) (x2 : Int) (x3 : Int) (x4 : Int) (u : Mu) (P : Mu → Prop) : Prop :=
  F_X12_linesAlone_3 x1 x2 x3 x4 0 u P
theorem T_X12_linesAlone  {x1 : Int} {x2 : Int} {x3 : Int} {x4 : Int} {u : Mu} {P : Mu → Prop} {h : Hp} {g : Nat → Nat} (r_x1 : R32 x1) (r_x2 : R32 x2) (r_x3 : R32 x3) (r_x4 : R32 x4) (m : Ms h g u)  (H : F_X12_linesAlone x1 x2 x3 x4 u P) : Con mX12_linesAlone 3 0 0 [vr (some (g 0)), ii (x1), ii (x2), ii (x3), ii (x4)] h (QMV g P) := by
  refine con_of rfl (Nat.le_of_ble_eq_true rfl) (by decide) ?_
  show J mX12_linesAlone 3 0 0 _ 0 [some (vr (some (g 0))), some (ii (x1)), some (ii (x2)), some (ii (x3)), some (ii (x4)), none] [] h
  unfold F_X12_linesAlone at H
  refine j_iconst (v := Int32.ofInt 0) (dk dt_X12_linesAlone 0 rfl) (by decide) ?_
  refine j_istore (dk dt_X12_linesAlone 1 rfl) (by decide) ?_
  exact j_el (T_X12_linesAlone_3 r_x1 r_x2 r_x3 r_x4 (by decide) m   H) (And.intro rfl (And.intro rfl (And.intro rfl (And.intro rfl (And.intro rfl (And.intro rfl trivial))))))
def F_X12_diff_21  (u : Mu) (P : Int → Mu → Prop) : Prop :=
  F_X12_throwing 1 u (fun x_23 u_23 => P x_23 u_23)
theorem T_X12_diff_21  {u : Mu} {P : Int → Mu → Prop} {h : Hp} {g : Nat → Nat}  (m : Ms h g u)   (H : F_X12_diff_21 u P) : J mX12_diff 4 0 0 (nx (QMI g P)) 21 [some (vr (some (g 0))), none, none, none, none, none, none, none, none] [] h := by
  unfold F_X12_diff_21 at H
  refine j_aload_n (dk dt_X12_diff 11 rfl) rfl ?_
  refine j_iconst (v := Int32.ofInt 1) (dk dt_X12_diff 12 rfl) (by decide) ?_
  refine jz_callV1 (dk dt_X12_diff 13 rfl) vl_X12_237 rfl (T_X12_throwing (by decide) m H) m.1.1 rfl (by decide) (Nat.zero_le _) (Nat.zero_le _) (Nat.le_of_ble_eq_true rfl) (fun v_23 h_23 P_23 => ?_)
  obtain ⟨x_23, u_23, rfl, r_23, m_23, H⟩ := P_23
  dsimp only [rs]
  exact j_ireturn (dk dt_X12_diff 14 rfl) rfl rfl ⟨_, _, rfl, r_23, m_23, H⟩
def L_X12_diff_46  (x3 : Int) (x4 : Int) (x5 : Int) (u : Mu) (P : (Int × Mu) ⊕ ((Mu)) → Prop) : Prop :=
  (if 2 ≤ x5 then P (.inr u) else F_X12_linesAlone x3 x4 x5 (w32 (w32 (2 * x5) + 1)) u (fun u_64 => F_X12_linesAlone x4 x3 x5 (w32 (w32 (2 * x5) + 2)) u_64 (fun u_79 => P (.inl (w32 (x5 + 1), u_79)))))
theorem U_X12_diff_46  {x3 : Int} {x4 : Int} {x5 : Int} {u : Mu} {P : (Int × Mu) ⊕ ((Mu)) → Prop} {h : Hp} {g : Nat → Nat} {post : Option Sv ⊕ String → Hp → Prop} (r_x3 : R32 x3) (r_x4 : R32 x4) (r_x5 : R32 x5) (m : Ms h g u)  (hl : ∀ (x5 : Int) (u : Mu) (h : Hp), P (.inl (x5, u)) → Ms h g u → R32 x5 → J mX12_diff 4 0 0 post 46 [some (vr (some (g 0))), none, none, some (ii (x3)), some (ii (x4)), some (ii (x5)), none, none, none] [] h) (he0 : ∀ (u : Mu) (h : Hp), P (.inr u) → Ms h g u → J mX12_diff 4 0 0 post 88 [some (vr (some (g 0))), none, none, some (ii (x3)), some (ii (x4)), none, none, none, none] [] h) (H : L_X12_diff_46 x3 x4 x5 u P) : J mX12_diff 4 0 0 post 46 [some (vr (some (g 0))), none, none, some (ii (x3)), some (ii (x4)), some (ii (x5)), none, none, none] [] h := by
  unfold L_X12_diff_46 at H
  refine j_iload (dk dt_X12_diff 26 rfl) rfl ?_
  refine j_iconst (v := Int32.ofInt 2) (dk dt_X12_diff 27 rfl) (by decide) ?_
  refine jz_icmp_ge 88 (dk dt_X12_diff 28 rfl) (by decide) r_x5 (by decide) H (fun H => ?_) (fun H => ?_)
  · exact j_el (he0 _ _ H m) (And.intro rfl (And.intro rfl (And.intro rfl trivial)))
  · refine j_aload_n (dk dt_X12_diff 29 rfl) rfl ?_
    refine j_iload_n (dk dt_X12_diff 30 rfl) rfl ?_
    refine j_iload (dk dt_X12_diff 31 rfl) rfl ?_
    refine j_iload (dk dt_X12_diff 32 rfl) rfl ?_
    refine j_iconst (v := Int32.ofInt 2) (dk dt_X12_diff 33 rfl) (by decide) ?_
    refine j_iload (dk dt_X12_diff 34 rfl) rfl ?_
    refine jz_imul (dk dt_X12_diff 35 rfl) ?_
    refine j_iconst (v := Int32.ofInt 1) (dk dt_X12_diff 36 rfl) (by decide) ?_
    refine jz_iadd (dk dt_X12_diff 37 rfl) ?_
    refine jz_callV4 (dk dt_X12_diff 38 rfl) vl_X12_945 rfl (T_X12_linesAlone r_x3 r_x4 r_x5 (r32_w _) m H) m.1.1 rfl (by decide) (Nat.zero_le _) (Nat.zero_le _) (Nat.le_of_ble_eq_true rfl) (fun v_64 h_64 P_64 => ?_)
    obtain ⟨u_64, rfl, m_64, H⟩ := P_64
    dsimp only [rs]
    refine j_aload_n (dk dt_X12_diff 39 rfl) rfl ?_
    refine j_iload (dk dt_X12_diff 40 rfl) rfl ?_
    refine j_iload_n (dk dt_X12_diff 41 rfl) rfl ?_
    refine j_iload (dk dt_X12_diff 42 rfl) rfl ?_
    refine j_iconst (v := Int32.ofInt 2) (dk dt_X12_diff 43 rfl) (by decide) ?_
    refine j_iload (dk dt_X12_diff 44 rfl) rfl ?_
    refine jz_imul (dk dt_X12_diff 45 rfl) ?_
    refine j_iconst (v := Int32.ofInt 2) (dk dt_X12_diff 46 rfl) (by decide) ?_
    refine jz_iadd (dk dt_X12_diff 47 rfl) ?_
    refine jz_callV4 (dk dt_X12_diff 48 rfl) vl_X12_945 rfl (T_X12_linesAlone r_x4 r_x3 r_x5 (r32_w _) m_64 H) m_64.1.1 rfl (by decide) (Nat.zero_le _) (Nat.zero_le _) (Nat.le_of_ble_eq_true rfl) (fun v_79 h_79 P_79 => ?_)
    obtain ⟨u_79, rfl, m_79, H⟩ := P_79
    dsimp only [rs]
    refine jz_iinc (dk dt_X12_diff 49 rfl) rfl ?_
    refine j_goto 46 (dk dt_X12_diff 50 rfl) (by decide) ?_
    exact j_el (hl _ _ _ H m_79 (r32_w _)) (And.intro rfl (And.intro rfl (And.intro rfl (And.intro rfl trivial))))
def F_X12_diff_121  (x3 : Int) (x4 : Int) (x5 : Int) (u : Mu) (P : (Int × Mu) ⊕ ((Mu)) → Prop) : Prop :=
  P (.inl (w32 (x5 + 1), u))
theorem T_X12_diff_121  {x3 : Int} {x4 : Int} {x5 : Int} {u : Mu} {P : (Int × Mu) ⊕ ((Mu)) → Prop} {h : Hp} {g : Nat → Nat} {post : Option Sv ⊕ String → Hp → Prop} (r_x3 : R32 x3) (r_x4 : R32 x4) (r_x5 : R32 x5) (m : Ms h g u)  (hl : ∀ (x5 : Int) (u : Mu) (h : Hp), P (.inl (x5, u)) → Ms h g u → R32 x5 → J mX12_diff 4 0 0 post 91 [some (vr (some (g 0))), none, none, some (ii (x3)), some (ii (x4)), some (ii (x5)), none, none, none] [] h) (he0 : ∀ (u : Mu) (h : Hp), P (.inr u) → Ms h g u → J mX12_diff 4 0 0 post 127 [some (vr (some (g 0))), none, none, some (ii (x3)), some (ii (x4)), none, none, none, none] [] h) (H : F_X12_diff_121 x3 x4 x5 u P) : J mX12_diff 4 0 0 (post) 121 [some (vr (some (g 0))), none, none, some (ii (x3)), some (ii (x4)), some (ii (x5)), none, none, none] [] h := by
  unfold F_X12_diff_121 at H
  refine jz_iinc (dk dt_X12_diff 70 rfl) rfl ?_
  refine j_goto 91 (dk dt_X12_diff 71 rfl) (by decide) ?_
  exact j_el (hl _ _ _ H m (r32_w _)) (And.intro rfl (And.intro rfl (And.intro rfl (And.intro rfl trivial))))
def L_X12_diff_91  (x3 : Int) (x4 : Int) (x5 : Int) (u : Mu) (P : (Int × Mu) ⊕ ((Mu)) → Prop) : Prop :=
  (if 2 ≤ x5 then P (.inr u) else F_X12_sameOrder x3 x4 x4 x5 u (fun x_105 => (if x_105 = 0 then F_X12_differ (w32 (5 + x5)) 0 0 u (fun u_118 => F_X12_diff_121 x3 x4 x5 u_118 P) else F_X12_diff_121 x3 x4 x5 u P)))
theorem U_X12_diff_91  {x3 : Int} {x4 : Int} {x5 : Int} {u : Mu} {P : (Int × Mu) ⊕ ((Mu)) → Prop} {h : Hp} {g : Nat → Nat} {post : Option Sv ⊕ String → Hp → Prop} (r_x3 : R32 x3) (r_x4 : R32 x4) (r_x5 : R32 x5) (m : Ms h g u)  (hl : ∀ (x5 : Int) (u : Mu) (h : Hp), P (.inl (x5, u)) → Ms h g u → R32 x5 → J mX12_diff 4 0 0 post 91 [some (vr (some (g 0))), none, none, some (ii (x3)), some (ii (x4)), some (ii (x5)), none, none, none] [] h) (he0 : ∀ (u : Mu) (h : Hp), P (.inr u) → Ms h g u → J mX12_diff 4 0 0 post 127 [some (vr (some (g 0))), none, none, some (ii (x3)), some (ii (x4)), none, none, none, none] [] h) (H : L_X12_diff_91 x3 x4 x5 u P) : J mX12_diff 4 0 0 post 91 [some (vr (some (g 0))), none, none, some (ii (x3)), some (ii (x4)), some (ii (x5)), none, none, none] [] h := by
  unfold L_X12_diff_91 at H
  refine j_iload (dk dt_X12_diff 53 rfl) rfl ?_
  refine j_iconst (v := Int32.ofInt 2) (dk dt_X12_diff 54 rfl) (by decide) ?_
  refine jz_icmp_ge 127 (dk dt_X12_diff 55 rfl) (by decide) r_x5 (by decide) H (fun H => ?_) (fun H => ?_)
  · exact j_el (he0 _ _ H m) (And.intro rfl (And.intro rfl (And.intro rfl trivial)))
  · refine j_aload_n (dk dt_X12_diff 56 rfl) rfl ?_
    refine j_iload_n (dk dt_X12_diff 57 rfl) rfl ?_
    refine j_iload (dk dt_X12_diff 58 rfl) rfl ?_
    refine j_iload (dk dt_X12_diff 59 rfl) rfl ?_
    refine j_iload (dk dt_X12_diff 60 rfl) rfl ?_
    refine jz_callV4 (dk dt_X12_diff 61 rfl) vl_X12_897 rfl (T_X12_sameOrder r_x3 r_x4 r_x4 r_x5 m H) m.1.1 rfl (by decide) (Nat.zero_le _) (Nat.zero_le _) (Nat.le_of_ble_eq_true rfl) (fun v_105 h_105 P_105 => ?_)
    obtain ⟨x_105, rfl, r_105, rfl, H⟩ := P_105
    dsimp only [rs]
    refine jz_if_ne 121 (dk dt_X12_diff 62 rfl) (by decide) r_105 H (fun H => ?_) (fun H => ?_)
    · refine j_aload_n (dk dt_X12_diff 63 rfl) rfl ?_
      refine j_iconst (v := Int32.ofInt 5) (dk dt_X12_diff 64 rfl) (by decide) ?_
      refine j_iload (dk dt_X12_diff 65 rfl) rfl ?_
      refine jz_iadd (dk dt_X12_diff 66 rfl) ?_
      refine j_iconst (v := Int32.ofInt 0) (dk dt_X12_diff 67 rfl) (by decide) ?_
      refine j_iconst (v := Int32.ofInt 0) (dk dt_X12_diff 68 rfl) (by decide) ?_
      refine jz_callV3 (dk dt_X12_diff 69 rfl) vl_X12_942 rfl (T_X12_differ (r32_w _) (by decide) (by decide) m H) m.1.1 rfl (by decide) (Nat.zero_le _) (Nat.zero_le _) (Nat.le_of_ble_eq_true rfl) (fun v_118 h_118 P_118 => ?_)
      obtain ⟨u_118, rfl, m_118, H⟩ := P_118
      dsimp only [rs]
      exact j_el (T_X12_diff_121 r_x3 r_x4 r_x5 m_118  hl he0 H) (And.intro rfl (And.intro rfl (And.intro rfl (And.intro rfl trivial))))
    · exact j_el (T_X12_diff_121 r_x3 r_x4 r_x5 m  hl he0 H) (And.intro rfl (And.intro rfl (And.intro rfl (And.intro rfl trivial))))
def F_X12_diff_243  (x3 : Int) (x4 : Int) (x5 : Int) (u : Mu) (P : (Int × Mu) ⊕ ((Mu)) → Prop) : Prop :=
  P (.inl (w32 (x5 + 1), u))
theorem T_X12_diff_243  {x3 : Int} {x4 : Int} {x5 : Int} {u : Mu} {P : (Int × Mu) ⊕ ((Mu)) → Prop} {h : Hp} {g : Nat → Nat} {post : Option Sv ⊕ String → Hp → Prop} (r_x3 : R32 x3) (r_x4 : R32 x4) (r_x5 : R32 x5) (m : Ms h g u)  (hl : ∀ (x5 : Int) (u : Mu) (h : Hp), P (.inl (x5, u)) → Ms h g u → R32 x5 → J mX12_diff 4 0 0 post 130 [some (vr (some (g 0))), none, none, some (ii (x3)), some (ii (x4)), some (ii (x5)), none, none, none] [] h) (he0 : ∀ (u : Mu) (h : Hp), P (.inr u) → Ms h g u → J mX12_diff 4 0 0 post 249 [some (vr (some (g 0))), none, none, none, none, none, none, none, none] [] h) (H : F_X12_diff_243 x3 x4 x5 u P) : J mX12_diff 4 0 0 (post) 243 [some (vr (some (g 0))), none, none, some (ii (x3)), some (ii (x4)), some (ii (x5)), none, none, none] [] h := by
  unfold F_X12_diff_243 at H
  refine jz_iinc (dk dt_X12_diff 134 rfl) rfl ?_
  refine j_goto 130 (dk dt_X12_diff 135 rfl) (by decide) ?_
  exact j_el (hl _ _ _ H m (r32_w _)) (And.intro rfl (And.intro rfl (And.intro rfl (And.intro rfl trivial))))
def L_X12_diff_130  (x3 : Int) (x4 : Int) (x5 : Int) (u : Mu) (P : (Int × Mu) ⊕ ((Mu)) → Prop) : Prop :=
  (if 320 ≤ x5 then P (.inr u) else (0 ≤ x4 ∧ x4 < 122 ∧ (if mI u 1 x4 ≤ w32 (Int.tdiv x5 10) then F_X12_diff_243 x3 x4 x5 u P else (0 ≤ x4 ∧ x4 < 122 ∧ (if mI u 2 x4 ≤ w32 (Int.tmod x5 10) then F_X12_diff_243 x3 x4 x5 u P else F_X12_lineAt x4 0 (w32 (Int.tdiv x5 10)) u (fun x_184 => F_X12_lineAt x4 1 (w32 (Int.tmod x5 10)) u (fun x_193 => F_X12_contentOf x3 x_184 x_193 u (fun x_196 => (if x_196 < 0 then F_X12_diff_243 x3 x4 x5 u P else (0 ≤ w32 (w32 (320 * x4) + x5) ∧ w32 (w32 (320 * x4) + x5) < 39040 ∧ F_X12_alike x_196 (mI u 5 (w32 (w32 (320 * x4) + x5))) u (fun x_223 => (if x_223 = 0 then F_X12_differ 7 (w32 (w32 (Int.tdiv x5 10) + 1)) (w32 (w32 (Int.tmod x5 10) + 1)) u (fun u_240 => F_X12_diff_243 x3 x4 x5 u_240 P) else F_X12_diff_243 x3 x4 x5 u P))))))))))))
theorem U_X12_diff_130  {x3 : Int} {x4 : Int} {x5 : Int} {u : Mu} {P : (Int × Mu) ⊕ ((Mu)) → Prop} {h : Hp} {g : Nat → Nat} {post : Option Sv ⊕ String → Hp → Prop} (r_x3 : R32 x3) (r_x4 : R32 x4) (r_x5 : R32 x5) (m : Ms h g u)  (hl : ∀ (x5 : Int) (u : Mu) (h : Hp), P (.inl (x5, u)) → Ms h g u → R32 x5 → J mX12_diff 4 0 0 post 130 [some (vr (some (g 0))), none, none, some (ii (x3)), some (ii (x4)), some (ii (x5)), none, none, none] [] h) (he0 : ∀ (u : Mu) (h : Hp), P (.inr u) → Ms h g u → J mX12_diff 4 0 0 post 249 [some (vr (some (g 0))), none, none, none, none, none, none, none, none] [] h) (H : L_X12_diff_130 x3 x4 x5 u P) : J mX12_diff 4 0 0 post 130 [some (vr (some (g 0))), none, none, some (ii (x3)), some (ii (x4)), some (ii (x5)), none, none, none] [] h := by
  unfold L_X12_diff_130 at H
  refine j_iload (dk dt_X12_diff 74 rfl) rfl ?_
  refine j_sipush (v := Int32.ofInt 320) (dk dt_X12_diff 75 rfl) (by decide) ?_
  refine jz_icmp_ge 249 (dk dt_X12_diff 76 rfl) (by decide) r_x5 (by decide) H (fun H => ?_) (fun H => ?_)
  · exact j_el (he0 _ _ H m) (And.intro rfl trivial)
  · refine j_iload (dk dt_X12_diff 77 rfl) rfl ?_
    refine j_bipush (v := Int32.ofInt 10) (dk dt_X12_diff 78 rfl) (by decide) ?_
    refine jz_idiv (dk dt_X12_diff 79 rfl) r_x5 (by decide) (by decide) ?_
    refine j_istore (dk dt_X12_diff 80 rfl) (by decide) ?_
    refine j_iload (dk dt_X12_diff 81 rfl) rfl ?_
    refine j_bipush (v := Int32.ofInt 10) (dk dt_X12_diff 82 rfl) (by decide) ?_
    refine jz_irem (dk dt_X12_diff 83 rfl) r_x5 (by decide) (by decide) ?_
    refine j_istore (dk dt_X12_diff 84 rfl) (by decide) ?_
    refine j_iload (dk dt_X12_diff 85 rfl) rfl ?_
    refine j_aload_n (dk dt_X12_diff 86 rfl) rfl ?_
    refine jm_getA (dk dt_X12_diff 87 rfl) fl_X12_7 rfl (c := 14) rfl m ?_
    refine j_iload (dk dt_X12_diff 88 rfl) rfl ?_
    obtain ⟨p_160, q_160, H⟩ := H
    refine jm_iald (dk dt_X12_diff 89 rfl) rfl rfl m p_160 q_160 ?_
    refine jz_icmp_ge 243 (dk dt_X12_diff 90 rfl) (by decide) (r32_w _) (m.2.1.1 _ _) H (fun H => ?_) (fun H => ?_)
    · exact j_el (T_X12_diff_243 r_x3 r_x4 r_x5 m  hl he0 H) (And.intro rfl (And.intro rfl (And.intro rfl (And.intro rfl trivial))))
    · refine j_iload (dk dt_X12_diff 91 rfl) rfl ?_
      refine j_aload_n (dk dt_X12_diff 92 rfl) rfl ?_
      refine jm_getA (dk dt_X12_diff 93 rfl) fl_X12_13 rfl (c := 14) rfl m ?_
      refine j_iload (dk dt_X12_diff 94 rfl) rfl ?_
      obtain ⟨p_172, q_172, H⟩ := H
      refine jm_iald (dk dt_X12_diff 95 rfl) rfl rfl m p_172 q_172 ?_
      refine jz_icmp_ge 243 (dk dt_X12_diff 96 rfl) (by decide) (r32_w _) (m.2.1.1 _ _) H (fun H => ?_) (fun H => ?_)
      · exact j_el (T_X12_diff_243 r_x3 r_x4 r_x5 m  hl he0 H) (And.intro rfl (And.intro rfl (And.intro rfl (And.intro rfl trivial))))
      · refine j_aload_n (dk dt_X12_diff 97 rfl) rfl ?_
        refine j_iload_n (dk dt_X12_diff 98 rfl) rfl ?_
        refine j_aload_n (dk dt_X12_diff 99 rfl) rfl ?_
        refine j_iload (dk dt_X12_diff 100 rfl) rfl ?_
        refine j_iconst (v := Int32.ofInt 0) (dk dt_X12_diff 101 rfl) (by decide) ?_
        refine j_iload (dk dt_X12_diff 102 rfl) rfl ?_
        refine jz_callV3 (dk dt_X12_diff 103 rfl) vl_X12_213 rfl (T_X12_lineAt r_x4 (by decide) (r32_w _) m H) m.1.1 rfl (by decide) (Nat.zero_le _) (Nat.zero_le _) (Nat.le_of_ble_eq_true rfl) (fun v_184 h_184 P_184 => ?_)
        obtain ⟨x_184, rfl, r_184, rfl, H⟩ := P_184
        dsimp only [rs]
        refine j_aload_n (dk dt_X12_diff 104 rfl) rfl ?_
        refine j_iload (dk dt_X12_diff 105 rfl) rfl ?_
        refine j_iconst (v := Int32.ofInt 1) (dk dt_X12_diff 106 rfl) (by decide) ?_
        refine j_iload (dk dt_X12_diff 107 rfl) rfl ?_
        refine jz_callV3 (dk dt_X12_diff 108 rfl) vl_X12_213 rfl (T_X12_lineAt r_x4 (by decide) (r32_w _) m H) m.1.1 rfl (by decide) (Nat.zero_le _) (Nat.zero_le _) (Nat.le_of_ble_eq_true rfl) (fun v_193 h_193 P_193 => ?_)
        obtain ⟨x_193, rfl, r_193, rfl, H⟩ := P_193
        dsimp only [rs]
        refine jz_callV3 (dk dt_X12_diff 109 rfl) vl_X12_887 rfl (T_X12_contentOf r_x3 r_184 r_193 m H) m.1.1 rfl (by decide) (Nat.zero_le _) (Nat.zero_le _) (Nat.le_of_ble_eq_true rfl) (fun v_196 h_196 P_196 => ?_)
        obtain ⟨x_196, rfl, r_196, rfl, H⟩ := P_196
        dsimp only [rs]
        refine j_istore (dk dt_X12_diff 110 rfl) (by decide) ?_
        refine j_iload (dk dt_X12_diff 111 rfl) rfl ?_
        refine jz_if_lt 243 (dk dt_X12_diff 112 rfl) (by decide) r_196 H (fun H => ?_) (fun H => ?_)
        · exact j_el (T_X12_diff_243 r_x3 r_x4 r_x5 m  hl he0 H) (And.intro rfl (And.intro rfl (And.intro rfl (And.intro rfl trivial))))
        · refine j_aload_n (dk dt_X12_diff 113 rfl) rfl ?_
          refine j_iload (dk dt_X12_diff 114 rfl) rfl ?_
          refine j_aload_n (dk dt_X12_diff 115 rfl) rfl ?_
          refine jm_getA (dk dt_X12_diff 116 rfl) fl_X12_23 rfl (c := 14) rfl m ?_
          refine j_sipush (v := Int32.ofInt 320) (dk dt_X12_diff 117 rfl) (by decide) ?_
          refine j_iload (dk dt_X12_diff 118 rfl) rfl ?_
          refine jz_imul (dk dt_X12_diff 119 rfl) ?_
          refine j_iload (dk dt_X12_diff 120 rfl) rfl ?_
          refine jz_iadd (dk dt_X12_diff 121 rfl) ?_
          obtain ⟨p_222, q_222, H⟩ := H
          refine jm_iald (dk dt_X12_diff 122 rfl) rfl rfl m p_222 q_222 ?_
          refine jz_callV2 (dk dt_X12_diff 123 rfl) vl_X12_865 rfl (T_X12_alike r_196 (m.2.1.1 _ _) m H) m.1.1 rfl (by decide) (Nat.zero_le _) (Nat.zero_le _) (Nat.le_of_ble_eq_true rfl) (fun v_223 h_223 P_223 => ?_)
          obtain ⟨x_223, rfl, r_223, rfl, H⟩ := P_223
          dsimp only [rs]
          refine jz_if_ne 243 (dk dt_X12_diff 124 rfl) (by decide) r_223 H (fun H => ?_) (fun H => ?_)
          · refine j_aload_n (dk dt_X12_diff 125 rfl) rfl ?_
            refine j_bipush (v := Int32.ofInt 7) (dk dt_X12_diff 126 rfl) (by decide) ?_
            refine j_iload (dk dt_X12_diff 127 rfl) rfl ?_
            refine j_iconst (v := Int32.ofInt 1) (dk dt_X12_diff 128 rfl) (by decide) ?_
            refine jz_iadd (dk dt_X12_diff 129 rfl) ?_
            refine j_iload (dk dt_X12_diff 130 rfl) rfl ?_
            refine j_iconst (v := Int32.ofInt 1) (dk dt_X12_diff 131 rfl) (by decide) ?_
            refine jz_iadd (dk dt_X12_diff 132 rfl) ?_
            refine jz_callV3 (dk dt_X12_diff 133 rfl) vl_X12_942 rfl (T_X12_differ (by decide) (r32_w _) (r32_w _) m H) m.1.1 rfl (by decide) (Nat.zero_le _) (Nat.zero_le _) (Nat.le_of_ble_eq_true rfl) (fun v_240 h_240 P_240 => ?_)
            obtain ⟨u_240, rfl, m_240, H⟩ := P_240
            dsimp only [rs]
            exact j_el (T_X12_diff_243 r_x3 r_x4 r_x5 m_240  hl he0 H) (And.intro rfl (And.intro rfl (And.intro rfl (And.intro rfl trivial))))
          · exact j_el (T_X12_diff_243 r_x3 r_x4 r_x5 m  hl he0 H) (And.intro rfl (And.intro rfl (And.intro rfl (And.intro rfl trivial))))
def F_X12_diff_130  (x3 : Int) (x4 : Int) (x5 : Int) (u : Mu) (P : Int → Mu → Prop) : Prop :=
  lp (S := Int × Mu) (E := (Mu)) (fun q P_ => L_X12_diff_130 x3 x4 q.1 q.2 P_) (x5, u) (fun (u : Mu) => P (mI u 0 104) u)
theorem T_X12_diff_130  {x3 : Int} {x4 : Int} {x5 : Int} {u : Mu} {P : Int → Mu → Prop} {h : Hp} {g : Nat → Nat} (r_x3 : R32 x3) (r_x4 : R32 x4) (r_x5 : R32 x5) (m : Ms h g u)   (H : F_X12_diff_130 x3 x4 x5 u P) : J mX12_diff 4 0 0 (nx (QMI g P)) 130 [some (vr (some (g 0))), none, none, some (ii (x3)), some (ii (x4)), some (ii (x5)), none, none, none] [] h := by
  unfold F_X12_diff_130 at H
  refine lp_J (G := fun q => ∀ h : Hp, Ms h g (q.2) → R32 (q.1) → J mX12_diff 4 0 0 (nx (QMI g P)) 130 [some (vr (some (g 0))), none, none, some (ii (x3)), some (ii (x4)), some (ii ((q.1))), none, none, none] [] h) (fun q P_ hl_ he_ Hb => ?_) (x5, u) H _ m r_x5
  obtain ⟨x5, u⟩ := q
  intro h m r_x5
  refine U_X12_diff_130 (P := P_) r_x3 r_x4 r_x5 m  (fun x5 u h Hp m r_x5 => hl_ (x5, u) Hp h m r_x5) ?_ Hb
  · intro u h Hp m
    have H := he_ _ Hp
    refine j_aload_n (dk dt_X12_diff 136 rfl) rfl ?_
    refine jm_getI (kz := 104) (dk dt_X12_diff 137 rfl) fl_X12_939 rfl rfl m ?_
    exact j_ireturn (dk dt_X12_diff 138 rfl) rfl rfl ⟨_, _, rfl, (m.2.1.1 _ _), m, H⟩
def F_X12_diff_91  (x3 : Int) (x4 : Int) (x5 : Int) (u : Mu) (P : Int → Mu → Prop) : Prop :=
  lp (S := Int × Mu) (E := (Mu)) (fun q P_ => L_X12_diff_91 x3 x4 q.1 q.2 P_) (x5, u) (fun (u : Mu) => F_X12_diff_130 x3 x4 0 u P)
theorem T_X12_diff_91  {x3 : Int} {x4 : Int} {x5 : Int} {u : Mu} {P : Int → Mu → Prop} {h : Hp} {g : Nat → Nat} (r_x3 : R32 x3) (r_x4 : R32 x4) (r_x5 : R32 x5) (m : Ms h g u)   (H : F_X12_diff_91 x3 x4 x5 u P) : J mX12_diff 4 0 0 (nx (QMI g P)) 91 [some (vr (some (g 0))), none, none, some (ii (x3)), some (ii (x4)), some (ii (x5)), none, none, none] [] h := by
  unfold F_X12_diff_91 at H
  refine lp_J (G := fun q => ∀ h : Hp, Ms h g (q.2) → R32 (q.1) → J mX12_diff 4 0 0 (nx (QMI g P)) 91 [some (vr (some (g 0))), none, none, some (ii (x3)), some (ii (x4)), some (ii ((q.1))), none, none, none] [] h) (fun q P_ hl_ he_ Hb => ?_) (x5, u) H _ m r_x5
  obtain ⟨x5, u⟩ := q
  intro h m r_x5
  refine U_X12_diff_91 (P := P_) r_x3 r_x4 r_x5 m  (fun x5 u h Hp m r_x5 => hl_ (x5, u) Hp h m r_x5) ?_ Hb
  · intro u h Hp m
    have H := he_ _ Hp
    refine j_iconst (v := Int32.ofInt 0) (dk dt_X12_diff 72 rfl) (by decide) ?_
    refine j_istore (dk dt_X12_diff 73 rfl) (by decide) ?_
    exact j_el (T_X12_diff_130 r_x3 r_x4 (by decide) m   H) (And.intro rfl (And.intro rfl (And.intro rfl (And.intro rfl trivial))))
def F_X12_diff_46  (x3 : Int) (x4 : Int) (x5 : Int) (u : Mu) (P : Int → Mu → Prop) : Prop :=
  lp (S := Int × Mu) (E := (Mu)) (fun q P_ => L_X12_diff_46 x3 x4 q.1 q.2 P_) (x5, u) (fun (u : Mu) => F_X12_diff_91 x3 x4 0 u P)
theorem T_X12_diff_46  {x3 : Int} {x4 : Int} {x5 : Int} {u : Mu} {P : Int → Mu → Prop} {h : Hp} {g : Nat → Nat} (r_x3 : R32 x3) (r_x4 : R32 x4) (r_x5 : R32 x5) (m : Ms h g u)   (H : F_X12_diff_46 x3 x4 x5 u P) : J mX12_diff 4 0 0 (nx (QMI g P)) 46 [some (vr (some (g 0))), none, none, some (ii (x3)), some (ii (x4)), some (ii (x5)), none, none, none] [] h := by
  unfold F_X12_diff_46 at H
  refine lp_J (G := fun q => ∀ h : Hp, Ms h g (q.2) → R32 (q.1) → J mX12_diff 4 0 0 (nx (QMI g P)) 46 [some (vr (some (g 0))), none, none, some (ii (x3)), some (ii (x4)), some (ii ((q.1))), none, none, none] [] h) (fun q P_ hl_ he_ Hb => ?_) (x5, u) H _ m r_x5
  obtain ⟨x5, u⟩ := q
  intro h m r_x5
  refine U_X12_diff_46 (P := P_) r_x3 r_x4 r_x5 m  (fun x5 u h Hp m r_x5 => hl_ (x5, u) Hp h m r_x5) ?_ Hb
  · intro u h Hp m
    have H := he_ _ Hp
    refine j_iconst (v := Int32.ofInt 0) (dk dt_X12_diff 51 rfl) (by decide) ?_
    refine j_istore (dk dt_X12_diff 52 rfl) (by decide) ?_
    exact j_el (T_X12_diff_91 r_x3 r_x4 (by decide) m   H) (And.intro rfl (And.intro rfl (And.intro rfl (And.intro rfl trivial))))
def F_X12_diff  (x1 : Int) (x2 : Int) (u : Mu) (P : Int → Mu → Prop) : Prop :=
  (∀ u_2, u_2 = uI u 0 0 0 → F_X12_isSheet x1 u_2 (fun x_7 => (if x_7 = 0 then F_X12_diff_21 u_2 P else F_X12_isSheet x2 u_2 (fun x_15 => (if x_15 = 0 then F_X12_diff_21 u_2 P else F_X12_sheetAt x1 (fun x_28 => F_X12_sheetAt x2 (fun x_33 => (∀ u_40, u_40 = uI u_2 0 104 0 → F_X12_diff_46 x_28 x_33 0 u_40 P))))))))
theorem T_X12_diff  {x1 : Int} {x2 : Int} {u : Mu} {P : Int → Mu → Prop} {h : Hp} {g : Nat → Nat} (r_x1 : R32 x1) (r_x2 : R32 x2) (m : Ms h g u)  (H : F_X12_diff x1 x2 u P) : Con mX12_diff 4 0 0 [vr (some (g 0)), ii (x1), ii (x2)] h (QMI g P) := by
  refine con_of rfl (Nat.le_of_ble_eq_true rfl) (by decide) ?_
  show J mX12_diff 4 0 0 _ 0 [some (vr (some (g 0))), some (ii (x1)), some (ii (x2)), none, none, none, none, none, none] [] h
  unfold F_X12_diff at H
  refine j_aload_n (dk dt_X12_diff 0 rfl) rfl ?_
  refine j_iconst (v := Int32.ofInt 0) (dk dt_X12_diff 1 rfl) (by decide) ?_
  refine jm_putI (kz := 0) (dk dt_X12_diff 2 rfl) fl_X12_202 rfl rfl rfl rfl m (by decide) (fun h_2 m_2 => ?_)
  replace H := H _ rfl
  refine j_aload_n (dk dt_X12_diff 3 rfl) rfl ?_
  refine j_iload_n (dk dt_X12_diff 4 rfl) rfl ?_
  refine jz_callV1 (dk dt_X12_diff 5 rfl) vl_X12_734 rfl (T_X12_isSheet r_x1 m_2 H) m_2.1.1 rfl (by decide) (Nat.zero_le _) (Nat.zero_le _) (Nat.le_of_ble_eq_true rfl) (fun v_7 h_7 P_7 => ?_)
  obtain ⟨x_7, rfl, r_7, rfl, H⟩ := P_7
  dsimp only [rs]
  refine jz_if_eq 21 (dk dt_X12_diff 6 rfl) (by decide) r_7 H (fun H => ?_) (fun H => ?_)
  · exact j_el (T_X12_diff_21  m_2   H) (And.intro rfl trivial)
  · refine j_aload_n (dk dt_X12_diff 7 rfl) rfl ?_
    refine j_iload_n (dk dt_X12_diff 8 rfl) rfl ?_
    refine jz_callV1 (dk dt_X12_diff 9 rfl) vl_X12_734 rfl (T_X12_isSheet r_x2 m_2 H) m_2.1.1 rfl (by decide) (Nat.zero_le _) (Nat.zero_le _) (Nat.le_of_ble_eq_true rfl) (fun v_15 h_15 P_15 => ?_)
    obtain ⟨x_15, rfl, r_15, rfl, H⟩ := P_15
    dsimp only [rs]
    refine jz_if_ne 27 (dk dt_X12_diff 10 rfl) (by decide) r_15 H (fun H => ?_) (fun H => ?_)
    · exact j_el (T_X12_diff_21  m_2   H) (And.intro rfl trivial)
    · refine j_iload_n (dk dt_X12_diff 15 rfl) rfl ?_
      refine j_callS1 (dk dt_X12_diff 16 rfl) sl_X12_737 (T_X12_sheetAt r_x1 H) rfl (by decide) (Nat.zero_le _) (Nat.zero_le _) (Nat.le_of_ble_eq_true rfl) (fun v_28 h_28 P_28 => ?_)
      obtain ⟨x_28, rfl, r_28, rfl, H⟩ := P_28
      dsimp only [rs]
      refine j_istore_n (dk dt_X12_diff 17 rfl) (by decide) ?_
      refine j_iload_n (dk dt_X12_diff 18 rfl) rfl ?_
      refine j_callS1 (dk dt_X12_diff 19 rfl) sl_X12_737 (T_X12_sheetAt r_x2 H) rfl (by decide) (Nat.zero_le _) (Nat.zero_le _) (Nat.le_of_ble_eq_true rfl) (fun v_33 h_33 P_33 => ?_)
      obtain ⟨x_33, rfl, r_33, rfl, H⟩ := P_33
      dsimp only [rs]
      refine j_istore (dk dt_X12_diff 20 rfl) (by decide) ?_
      refine j_aload_n (dk dt_X12_diff 21 rfl) rfl ?_
      refine j_iconst (v := Int32.ofInt 0) (dk dt_X12_diff 22 rfl) (by decide) ?_
      refine jm_putI (kz := 104) (dk dt_X12_diff 23 rfl) fl_X12_939 rfl rfl rfl rfl m_2 (by decide) (fun h_40 m_40 => ?_)
      replace H := H _ rfl
      refine j_iconst (v := Int32.ofInt 0) (dk dt_X12_diff 24 rfl) (by decide) ?_
      refine j_istore (dk dt_X12_diff 25 rfl) (by decide) ?_
      exact j_el (T_X12_diff_46 r_28 r_33 (by decide) m_40   H) (And.intro rfl (And.intro rfl (And.intro rfl (And.intro rfl trivial))))
def F_X12_difference_63  (s0 : Int) (u : Mu) (P : Int → Mu → Prop) : Prop :=
  P s0 u
theorem T_X12_difference_63  {s0 : Int} {u : Mu} {P : Int → Mu → Prop} {h : Hp} {g : Nat → Nat} (r_s0 : R32 s0) (m : Ms h g u)   (H : F_X12_difference_63 s0 u P) : J mX12_difference 2 0 0 (nx (QMI g P)) 63 [none, none, none] [ii (s0)] h := by
  unfold F_X12_difference_63 at H
  exact j_ireturn (dk dt_X12_difference 37 rfl) rfl rfl ⟨_, _, rfl, r_s0, m, H⟩
def F_X12_difference  (x1 : Int) (x2 : Int) (u : Mu) (P : Int → Mu → Prop) : Prop :=
  (∀ u_2, u_2 = uI u 0 0 0 → F_X12_in x1 0 (w32 ((mI u_2 0 104) - 1)) (fun x_13 => (if x_13 = 0 then P (-1) u_2 else (if x2 = 0 then (0 ≤ x1 ∧ x1 < 410 ∧ F_X12_difference_63 (mI u_2 101 x1) u_2 P) else (if x2 = 1 then (0 ≤ x1 ∧ x1 < 410 ∧ F_X12_difference_63 (mI u_2 102 x1) u_2 P) else (if x2 = 2 then (0 ≤ x1 ∧ x1 < 410 ∧ F_X12_difference_63 (mI u_2 103 x1) u_2 P) else F_X12_difference_63 (-1) u_2 P))))))
theorem T_X12_difference  {x1 : Int} {x2 : Int} {u : Mu} {P : Int → Mu → Prop} {h : Hp} {g : Nat → Nat} (r_x1 : R32 x1) (r_x2 : R32 x2) (m : Ms h g u)  (H : F_X12_difference x1 x2 u P) : Con mX12_difference 2 0 0 [vr (some (g 0)), ii (x1), ii (x2)] h (QMI g P) := by
  refine con_of rfl (Nat.le_of_ble_eq_true rfl) (by decide) ?_
  show J mX12_difference 2 0 0 _ 0 [some (vr (some (g 0))), some (ii (x1)), some (ii (x2))] [] h
  unfold F_X12_difference at H
  refine j_aload_n (dk dt_X12_difference 0 rfl) rfl ?_
  refine j_iconst (v := Int32.ofInt 0) (dk dt_X12_difference 1 rfl) (by decide) ?_
  refine jm_putI (kz := 0) (dk dt_X12_difference 2 rfl) fl_X12_202 rfl rfl rfl rfl m (by decide) (fun h_2 m_2 => ?_)
  replace H := H _ rfl
  refine j_iload_n (dk dt_X12_difference 3 rfl) rfl ?_
  refine j_iconst (v := Int32.ofInt 0) (dk dt_X12_difference 4 rfl) (by decide) ?_
  refine j_aload_n (dk dt_X12_difference 5 rfl) rfl ?_
  refine jm_getI (kz := 104) (dk dt_X12_difference 6 rfl) fl_X12_939 rfl rfl m_2 ?_
  refine j_iconst (v := Int32.ofInt 1) (dk dt_X12_difference 7 rfl) (by decide) ?_
  refine jz_isub (dk dt_X12_difference 8 rfl) ?_
  refine j_callS3 (dk dt_X12_difference 9 rfl) sl_X12_220 (T_X12_in r_x1 (by decide) (r32_w _) H) rfl (by decide) (Nat.zero_le _) (Nat.zero_le _) (Nat.le_of_ble_eq_true rfl) (fun v_13 h_13 P_13 => ?_)
  obtain ⟨x_13, rfl, r_13, rfl, H⟩ := P_13
  dsimp only [rs]
  refine jz_if_ne 21 (dk dt_X12_difference 10 rfl) (by decide) r_13 H (fun H => ?_) (fun H => ?_)
  · refine j_iconst (v := Int32.ofInt (-1)) (dk dt_X12_difference 11 rfl) (by decide) ?_
    exact j_ireturn (dk dt_X12_difference 12 rfl) rfl rfl ⟨_, _, rfl, (by decide), m_2, H⟩
  · refine j_iload_n (dk dt_X12_difference 13 rfl) rfl ?_
    refine jz_if_ne 34 (dk dt_X12_difference 14 rfl) (by decide) r_x2 H (fun H => ?_) (fun H => ?_)
    · refine j_aload_n (dk dt_X12_difference 15 rfl) rfl ?_
      refine jm_getA (dk dt_X12_difference 16 rfl) fl_X12_189 rfl (c := 14) rfl m_2 ?_
      refine j_iload_n (dk dt_X12_difference 17 rfl) rfl ?_
      obtain ⟨p_30, q_30, H⟩ := H
      refine jm_iald (dk dt_X12_difference 18 rfl) rfl rfl m_2 p_30 q_30 ?_
      refine j_goto 63 (dk dt_X12_difference 19 rfl) (by decide) ?_
      exact j_el (T_X12_difference_63 (m_2.2.1.1 _ _) m_2   H) trivial
    · refine j_iload_n (dk dt_X12_difference 20 rfl) rfl ?_
      refine j_iconst (v := Int32.ofInt 1) (dk dt_X12_difference 21 rfl) (by decide) ?_
      refine jz_icmp_ne 48 (dk dt_X12_difference 22 rfl) (by decide) r_x2 (by decide) H (fun H => ?_) (fun H => ?_)
      · refine j_aload_n (dk dt_X12_difference 23 rfl) rfl ?_
        refine jm_getA (dk dt_X12_difference 24 rfl) fl_X12_192 rfl (c := 14) rfl m_2 ?_
        refine j_iload_n (dk dt_X12_difference 25 rfl) rfl ?_
        obtain ⟨p_44, q_44, H⟩ := H
        refine jm_iald (dk dt_X12_difference 26 rfl) rfl rfl m_2 p_44 q_44 ?_
        refine j_goto 63 (dk dt_X12_difference 27 rfl) (by decide) ?_
        exact j_el (T_X12_difference_63 (m_2.2.1.1 _ _) m_2   H) trivial
      · refine j_iload_n (dk dt_X12_difference 28 rfl) rfl ?_
        refine j_iconst (v := Int32.ofInt 2) (dk dt_X12_difference 29 rfl) (by decide) ?_
        refine jz_icmp_ne 62 (dk dt_X12_difference 30 rfl) (by decide) r_x2 (by decide) H (fun H => ?_) (fun H => ?_)
        · refine j_aload_n (dk dt_X12_difference 31 rfl) rfl ?_
          refine jm_getA (dk dt_X12_difference 32 rfl) fl_X12_195 rfl (c := 14) rfl m_2 ?_
          refine j_iload_n (dk dt_X12_difference 33 rfl) rfl ?_
          obtain ⟨p_58, q_58, H⟩ := H
          refine jm_iald (dk dt_X12_difference 34 rfl) rfl rfl m_2 p_58 q_58 ?_
          refine j_goto 63 (dk dt_X12_difference 35 rfl) (by decide) ?_
          exact j_el (T_X12_difference_63 (m_2.2.1.1 _ _) m_2   H) trivial
        · refine j_iconst (v := Int32.ofInt (-1)) (dk dt_X12_difference 36 rfl) (by decide) ?_
          exact j_el (T_X12_difference_63 (by decide) m_2   H) trivial
def F_X12_drop  (u : Mu) (P : Int → Mu → Prop) : Prop :=
  (∀ u_2, u_2 = uI u 0 0 0 → F_X12_head u_2 (fun x_7 => F_X12_become x_7 u_2 (fun u_10 => F_X12_head u_10 (fun x_14 => P x_14 u_10))))
theorem T_X12_drop  {u : Mu} {P : Int → Mu → Prop} {h : Hp} {g : Nat → Nat}  (m : Ms h g u)  (H : F_X12_drop u P) : Con mX12_drop 3 0 0 [vr (some (g 0))] h (QMI g P) := by
  refine con_of rfl (Nat.le_of_ble_eq_true rfl) (by decide) ?_
  show J mX12_drop 3 0 0 _ 0 [some (vr (some (g 0)))] [] h
  unfold F_X12_drop at H
  refine j_aload_n (dk dt_X12_drop 0 rfl) rfl ?_
  refine j_iconst (v := Int32.ofInt 0) (dk dt_X12_drop 1 rfl) (by decide) ?_
  refine jm_putI (kz := 0) (dk dt_X12_drop 2 rfl) fl_X12_202 rfl rfl rfl rfl m (by decide) (fun h_2 m_2 => ?_)
  replace H := H _ rfl
  refine j_aload_n (dk dt_X12_drop 3 rfl) rfl ?_
  refine j_aload_n (dk dt_X12_drop 4 rfl) rfl ?_
  refine jz_callV0 (dk dt_X12_drop 5 rfl) vl_X12_860 rfl (T_X12_head m_2 H) m_2.1.1 rfl (by decide) (Nat.zero_le _) (Nat.zero_le _) (Nat.le_of_ble_eq_true rfl) (fun v_7 h_7 P_7 => ?_)
  obtain ⟨x_7, rfl, r_7, rfl, H⟩ := P_7
  dsimp only [rs]
  refine jz_callV1 (dk dt_X12_drop 6 rfl) vl_X12_880 rfl (T_X12_become r_7 m_2 H) m_2.1.1 rfl (by decide) (Nat.zero_le _) (Nat.zero_le _) (Nat.le_of_ble_eq_true rfl) (fun v_10 h_10 P_10 => ?_)
  obtain ⟨u_10, rfl, m_10, H⟩ := P_10
  dsimp only [rs]
  refine j_aload_n (dk dt_X12_drop 7 rfl) rfl ?_
  refine jz_callV0 (dk dt_X12_drop 8 rfl) vl_X12_860 rfl (T_X12_head m_10 H) m_10.1.1 rfl (by decide) (Nat.zero_le _) (Nat.zero_le _) (Nat.le_of_ble_eq_true rfl) (fun v_14 h_14 P_14 => ?_)
  obtain ⟨x_14, rfl, r_14, rfl, H⟩ := P_14
  dsimp only [rs]
  exact j_ireturn (dk dt_X12_drop 9 rfl) rfl rfl ⟨_, _, rfl, r_14, m_10, H⟩
def F_X12_end_24  (x2 : Int) (u : Mu) (P : Int → Mu → Prop) : Prop :=
  (Z1 x2 ∧ P x2 u)
theorem T_X12_end_24  {x2 : Int} {u : Mu} {P : Int → Mu → Prop} {h : Hp} {g : Nat → Nat} (r_x2 : R32 x2) (m : Ms h g u)   (H : F_X12_end_24 x2 u P) : J mX12_end 2 0 0 (nx (QMI g P)) 24 [none, none, some (ii (x2))] [] h := by
  unfold F_X12_end_24 at H
  refine j_iload_n (dk dt_X12_end 14 rfl) rfl ?_
  obtain ⟨hz_, H⟩ := H
  exact j_ireturn (dk dt_X12_end 15 rfl) rfl (nar_z hz_) ⟨_, _, rfl, r_x2, m, H⟩
def F_X12_end  (x1 : Int) (u : Mu) (P : Int → Mu → Prop) : Prop :=
  (∀ u_2, u_2 = uI u 0 0 0 → F_X12_in x1 0 (mI u_2 0 40) (fun x_11 => (if x_11 = 0 then F_X12_end_24 x_11 u_2 P else (∀ u_21, u_21 = uI u_2 0 40 x1 → F_X12_end_24 x_11 u_21 P))))
theorem T_X12_end  {x1 : Int} {u : Mu} {P : Int → Mu → Prop} {h : Hp} {g : Nat → Nat} (r_x1 : R32 x1) (m : Ms h g u)  (H : F_X12_end x1 u P) : Con mX12_end 2 0 0 [vr (some (g 0)), ii (x1)] h (QMI g P) := by
  refine con_of rfl (Nat.le_of_ble_eq_true rfl) (by decide) ?_
  show J mX12_end 2 0 0 _ 0 [some (vr (some (g 0))), some (ii (x1)), none] [] h
  unfold F_X12_end at H
  refine j_aload_n (dk dt_X12_end 0 rfl) rfl ?_
  refine j_iconst (v := Int32.ofInt 0) (dk dt_X12_end 1 rfl) (by decide) ?_
  refine jm_putI (kz := 0) (dk dt_X12_end 2 rfl) fl_X12_202 rfl rfl rfl rfl m (by decide) (fun h_2 m_2 => ?_)
  replace H := H _ rfl
  refine j_iload_n (dk dt_X12_end 3 rfl) rfl ?_
  refine j_iconst (v := Int32.ofInt 0) (dk dt_X12_end 4 rfl) (by decide) ?_
  refine j_aload_n (dk dt_X12_end 5 rfl) rfl ?_
  refine jm_getI (kz := 40) (dk dt_X12_end 6 rfl) fl_X12_258 rfl rfl m_2 ?_
  refine j_callS3 (dk dt_X12_end 7 rfl) sl_X12_220 (T_X12_in r_x1 (by decide) (m_2.2.1.1 _ _) H) rfl (by decide) (Nat.zero_le _) (Nat.zero_le _) (Nat.le_of_ble_eq_true rfl) (fun v_11 h_11 P_11 => ?_)
  obtain ⟨x_11, rfl, r_11, rfl, H⟩ := P_11
  dsimp only [rs]
  refine j_istore_n (dk dt_X12_end 8 rfl) (by decide) ?_
  refine j_iload_n (dk dt_X12_end 9 rfl) rfl ?_
  refine jz_if_eq 24 (dk dt_X12_end 10 rfl) (by decide) r_11 H (fun H => ?_) (fun H => ?_)
  · exact j_el (T_X12_end_24 r_11 m_2   H) (And.intro rfl trivial)
  · refine j_aload_n (dk dt_X12_end 11 rfl) rfl ?_
    refine j_iload_n (dk dt_X12_end 12 rfl) rfl ?_
    refine jm_putI (kz := 40) (dk dt_X12_end 13 rfl) fl_X12_258 rfl rfl rfl rfl m_2 r_x1 (fun h_21 m_21 => ?_)
    replace H := H _ rfl
    exact j_el (T_X12_end_24 r_11 m_21   H) (And.intro rfl trivial)
def F_X12_fail_17  (u : Mu) (P : Mu → Prop) : Prop :=
  P u
theorem T_X12_fail_17  {u : Mu} {P : Mu → Prop} {h : Hp} {g : Nat → Nat}  (m : Ms h g u)   (H : F_X12_fail_17 u P) : J mX12_fail 1 0 0 (nx (QMV g P)) 17 [none, none, none] [] h := by
  unfold F_X12_fail_17 at H
  exact j_return (dk dt_X12_fail 9 rfl) rfl ⟨_, rfl, m, H⟩
def F_X12_fail  (x1 : Int) (x2 : Int) (u : Mu) (P : Mu → Prop) : Prop :=
  (if mI u 0 41 = 0 then (∀ u_9, u_9 = uI u 0 41 x1 → (∀ u_14, u_14 = uI u_9 0 42 x2 → F_X12_fail_17 u_14 P)) else F_X12_fail_17 u P)
theorem T_X12_fail  {x1 : Int} {x2 : Int} {u : Mu} {P : Mu → Prop} {h : Hp} {g : Nat → Nat} (r_x1 : R32 x1) (r_x2 : R32 x2) (m : Ms h g u)  (H : F_X12_fail x1 x2 u P) : Con mX12_fail 1 0 0 [vr (some (g 0)), ii (x1), ii (x2)] h (QMV g P) := by
  refine con_of rfl (Nat.le_of_ble_eq_true rfl) (by decide) ?_
  show J mX12_fail 1 0 0 _ 0 [some (vr (some (g 0))), some (ii (x1)), some (ii (x2))] [] h
  unfold F_X12_fail at H
  refine j_aload_n (dk dt_X12_fail 0 rfl) rfl ?_
  refine jm_getI (kz := 41) (dk dt_X12_fail 1 rfl) fl_X12_277 rfl rfl m ?_
  refine jz_if_ne 17 (dk dt_X12_fail 2 rfl) (by decide) (m.2.1.1 _ _) H (fun H => ?_) (fun H => ?_)
  · refine j_aload_n (dk dt_X12_fail 3 rfl) rfl ?_
    refine j_iload_n (dk dt_X12_fail 4 rfl) rfl ?_
    refine jm_putI (kz := 41) (dk dt_X12_fail 5 rfl) fl_X12_277 rfl rfl rfl rfl m r_x1 (fun h_9 m_9 => ?_)
    replace H := H _ rfl
    refine j_aload_n (dk dt_X12_fail 6 rfl) rfl ?_
    refine j_iload_n (dk dt_X12_fail 7 rfl) rfl ?_
    refine jm_putI (kz := 42) (dk dt_X12_fail 8 rfl) fl_X12_280 rfl rfl rfl rfl m_9 r_x2 (fun h_14 m_14 => ?_)
    replace H := H _ rfl
    exact j_el (T_X12_fail_17  m_14   H) trivial
  · exact j_el (T_X12_fail_17  m   H) trivial
def L_X12_isNumber_36  (x2 : Int) (x4 : Int) (u : Mu) (P : Int ⊕ ((Unit) ⊕ (Unit)) → Prop) : Prop :=
  (if x2 ≤ x4 then P (.inr (.inl ())) else (0 ≤ x4 ∧ x4 < 400 ∧ F_X12_isDigit (mI u 39 x4) (fun x_49 => (if x_49 = 0 then P (.inr (.inr ())) else P (.inl (w32 (x4 + 1)))))))
theorem U_X12_isNumber_36  {x2 : Int} {x4 : Int} {u : Mu} {P : Int ⊕ ((Unit) ⊕ (Unit)) → Prop} {h : Hp} {g : Nat → Nat} {post : Option Sv ⊕ String → Hp → Prop} (r_x2 : R32 x2) (r_x4 : R32 x4) (m : Ms h g u)  (hl : ∀ (x4 : Int), P (.inl x4) → R32 x4 → J mX12_isNumber 3 0 0 post 36 [some (vr (some (g 0))), none, some (ii (x2)), none, some (ii (x4))] [] h) (he0 : P (.inr (.inl ())) → J mX12_isNumber 3 0 0 post 63 [none, none, none, none, none] [] h) (he1 : P (.inr (.inr ())) → J mX12_isNumber 3 0 0 post 55 [none, none, none, none, none] [] h) (H : L_X12_isNumber_36 x2 x4 u P) : J mX12_isNumber 3 0 0 post 36 [some (vr (some (g 0))), none, some (ii (x2)), none, some (ii (x4))] [] h := by
  unfold L_X12_isNumber_36 at H
  refine j_iload (dk dt_X12_isNumber 23 rfl) rfl ?_
  refine j_iload_n (dk dt_X12_isNumber 24 rfl) rfl ?_
  refine jz_icmp_ge 63 (dk dt_X12_isNumber 25 rfl) (by decide) r_x4 r_x2 H (fun H => ?_) (fun H => ?_)
  · exact j_el (he0  H ) trivial
  · refine j_aload_n (dk dt_X12_isNumber 26 rfl) rfl ?_
    refine jm_getA (dk dt_X12_isNumber 27 rfl) fl_X12_106 rfl (c := 14) rfl m ?_
    refine j_iload (dk dt_X12_isNumber 28 rfl) rfl ?_
    obtain ⟨p_48, q_48, H⟩ := H
    refine jm_iald (dk dt_X12_isNumber 29 rfl) rfl rfl m p_48 q_48 ?_
    refine j_callS1 (dk dt_X12_isNumber 30 rfl) sl_X12_283 (T_X12_isDigit (m.2.1.1 _ _) H) rfl (by decide) (Nat.zero_le _) (Nat.zero_le _) (Nat.le_of_ble_eq_true rfl) (fun v_49 h_49 P_49 => ?_)
    obtain ⟨x_49, rfl, r_49, rfl, H⟩ := P_49
    dsimp only [rs]
    refine jz_if_ne 57 (dk dt_X12_isNumber 31 rfl) (by decide) r_49 H (fun H => ?_) (fun H => ?_)
    · exact j_el (he1  H ) trivial
    · refine jz_iinc (dk dt_X12_isNumber 34 rfl) rfl ?_
      refine j_goto 36 (dk dt_X12_isNumber 35 rfl) (by decide) ?_
      exact j_el (hl _ H (r32_w _)) (And.intro rfl (And.intro rfl (And.intro rfl trivial)))
def F_X12_isNumber_36  (x2 : Int) (x4 : Int) (u : Mu) (P : Int → Prop) : Prop :=
  lp (S := Int) (E := (Unit) ⊕ (Unit)) (fun q P_ => L_X12_isNumber_36 x2 q u P_) x4 (fun e => match e with | (.inl _) => P 1 | (.inr _) => P 0)
theorem T_X12_isNumber_36  {x2 : Int} {x4 : Int} {u : Mu} {P : Int → Prop} {h : Hp} {g : Nat → Nat} (r_x2 : R32 x2) (r_x4 : R32 x4) (m : Ms h g u)   (H : F_X12_isNumber_36 x2 x4 u P) : J mX12_isNumber 3 0 0 (nx (QPI h P)) 36 [some (vr (some (g 0))), none, some (ii (x2)), none, some (ii (x4))] [] h := by
  unfold F_X12_isNumber_36 at H
  refine lp_J (G := fun q => R32 (q) → J mX12_isNumber 3 0 0 (nx (QPI h P)) 36 [some (vr (some (g 0))), none, some (ii (x2)), none, some (ii ((q)))] [] h) (fun x4 P_ hl_ he_ Hb => ?_) x4 H r_x4
  intro r_x4
  refine U_X12_isNumber_36 (P := P_) r_x2 r_x4 m  (fun x4 Hp r_x4 => hl_ x4 Hp r_x4) ?_ ?_ Hb
  · intro Hp
    have H := he_ _ Hp
    refine j_iconst (v := Int32.ofInt 1) (dk dt_X12_isNumber 36 rfl) (by decide) ?_
    exact j_ireturn (dk dt_X12_isNumber 37 rfl) rfl (nar_z (by decide)) ⟨_, rfl, (by decide), rfl, H⟩
  · intro Hp
    have H := he_ _ Hp
    refine j_iconst (v := Int32.ofInt 0) (dk dt_X12_isNumber 32 rfl) (by decide) ?_
    exact j_ireturn (dk dt_X12_isNumber 33 rfl) rfl (nar_z (by decide)) ⟨_, rfl, (by decide), rfl, H⟩
def F_X12_isNumber_18  (x2 : Int) (s0 : Int) (u : Mu) (P : Int → Prop) : Prop :=
  F_X12_in (w32 (x2 - s0)) 1 15 (fun x_25 => (if x_25 = 0 then P 0 else F_X12_isNumber_36 x2 s0 u P))
theorem T_X12_isNumber_18  {x2 : Int} {s0 : Int} {u : Mu} {P : Int → Prop} {h : Hp} {g : Nat → Nat} (r_x2 : R32 x2) (r_s0 : R32 s0) (m : Ms h g u)   (H : F_X12_isNumber_18 x2 s0 u P) : J mX12_isNumber 3 0 0 (nx (QPI h P)) 18 [some (vr (some (g 0))), none, some (ii (x2)), none, none] [ii (s0)] h := by
  unfold F_X12_isNumber_18 at H
  refine j_istore_n (dk dt_X12_isNumber 11 rfl) (by decide) ?_
  refine j_iload_n (dk dt_X12_isNumber 12 rfl) rfl ?_
  refine j_iload_n (dk dt_X12_isNumber 13 rfl) rfl ?_
  refine jz_isub (dk dt_X12_isNumber 14 rfl) ?_
  refine j_iconst (v := Int32.ofInt 1) (dk dt_X12_isNumber 15 rfl) (by decide) ?_
  refine j_bipush (v := Int32.ofInt 15) (dk dt_X12_isNumber 16 rfl) (by decide) ?_
  refine j_callS3 (dk dt_X12_isNumber 17 rfl) sl_X12_220 (T_X12_in (r32_w _) (by decide) (by decide) H) rfl (by decide) (Nat.zero_le _) (Nat.zero_le _) (Nat.le_of_ble_eq_true rfl) (fun v_25 h_25 P_25 => ?_)
  obtain ⟨x_25, rfl, r_25, rfl, H⟩ := P_25
  dsimp only [rs]
  refine jz_if_ne 33 (dk dt_X12_isNumber 18 rfl) (by decide) r_25 H (fun H => ?_) (fun H => ?_)
  · refine j_iconst (v := Int32.ofInt 0) (dk dt_X12_isNumber 19 rfl) (by decide) ?_
    exact j_ireturn (dk dt_X12_isNumber 20 rfl) rfl (nar_z (by decide)) ⟨_, rfl, (by decide), rfl, H⟩
  · refine j_iload_n (dk dt_X12_isNumber 21 rfl) rfl ?_
    refine j_istore (dk dt_X12_isNumber 22 rfl) (by decide) ?_
    exact j_el (T_X12_isNumber_36 r_x2 r_s0 m   H) (And.intro rfl (And.intro rfl (And.intro rfl trivial)))
def F_X12_isNumber  (x1 : Int) (x2 : Int) (u : Mu) (P : Int → Prop) : Prop :=
  (0 ≤ x1 ∧ x1 < 400 ∧ (if mI u 39 x1 = 45 then F_X12_isNumber_18 x2 (w32 (x1 + 1)) u P else F_X12_isNumber_18 x2 x1 u P))
theorem T_X12_isNumber  {x1 : Int} {x2 : Int} {u : Mu} {P : Int → Prop} {h : Hp} {g : Nat → Nat} (r_x1 : R32 x1) (r_x2 : R32 x2) (m : Ms h g u)  (H : F_X12_isNumber x1 x2 u P) : Con mX12_isNumber 3 0 0 [vr (some (g 0)), ii (x1), ii (x2)] h (QPI h P) := by
  refine con_of rfl (Nat.le_of_ble_eq_true rfl) (by decide) ?_
  show J mX12_isNumber 3 0 0 _ 0 [some (vr (some (g 0))), some (ii (x1)), some (ii (x2)), none, none] [] h
  unfold F_X12_isNumber at H
  refine j_aload_n (dk dt_X12_isNumber 0 rfl) rfl ?_
  refine jm_getA (dk dt_X12_isNumber 1 rfl) fl_X12_106 rfl (c := 14) rfl m ?_
  refine j_iload_n (dk dt_X12_isNumber 2 rfl) rfl ?_
  obtain ⟨p_5, q_5, H⟩ := H
  refine jm_iald (dk dt_X12_isNumber 3 rfl) rfl rfl m p_5 q_5 ?_
  refine j_bipush (v := Int32.ofInt 45) (dk dt_X12_isNumber 4 rfl) (by decide) ?_
  refine jz_icmp_ne 17 (dk dt_X12_isNumber 5 rfl) (by decide) (m.2.1.1 _ _) (by decide) H (fun H => ?_) (fun H => ?_)
  · refine j_iload_n (dk dt_X12_isNumber 6 rfl) rfl ?_
    refine j_iconst (v := Int32.ofInt 1) (dk dt_X12_isNumber 7 rfl) (by decide) ?_
    refine jz_iadd (dk dt_X12_isNumber 8 rfl) ?_
    refine j_goto 18 (dk dt_X12_isNumber 9 rfl) (by decide) ?_
    exact j_el (T_X12_isNumber_18 r_x2 (r32_w _) m   H) (And.intro rfl (And.intro rfl trivial))
  · refine j_iload_n (dk dt_X12_isNumber 10 rfl) rfl ?_
    exact j_el (T_X12_isNumber_18 r_x2 r_x1 m   H) (And.intro rfl (And.intro rfl trivial))
def F_X12_isSign  (x0 : Int) (P : Int → Prop) : Prop :=
  F_X12_in x0 32 126 (fun x_5 => (Z1 x_5 ∧ P x_5))
theorem T_X12_isSign  {x0 : Int} {P : Int → Prop} {h : Hp} (r_x0 : R32 x0)   (H : F_X12_isSign x0 P) : Con mX12_isSign 2 0 0 [ii (x0)] h (QPI h P) := by
  refine con_of rfl (Nat.le_of_ble_eq_true rfl) (by decide) ?_
  show J mX12_isSign 2 0 0 _ 0 [some (ii (x0))] [] h
  unfold F_X12_isSign at H
  refine j_iload_n (dk dt_X12_isSign 0 rfl) rfl ?_
  refine j_bipush (v := Int32.ofInt 32) (dk dt_X12_isSign 1 rfl) (by decide) ?_
  refine j_bipush (v := Int32.ofInt 126) (dk dt_X12_isSign 2 rfl) (by decide) ?_
  refine j_callS3 (dk dt_X12_isSign 3 rfl) sl_X12_220 (T_X12_in r_x0 (by decide) (by decide) H) rfl (by decide) (Nat.zero_le _) (Nat.zero_le _) (Nat.le_of_ble_eq_true rfl) (fun v_5 h_5 P_5 => ?_)
  obtain ⟨x_5, rfl, r_5, rfl, H⟩ := P_5
  dsimp only [rs]
  obtain ⟨hz_, H⟩ := H
  exact j_ireturn (dk dt_X12_isSign 4 rfl) rfl (nar_z hz_) ⟨_, rfl, r_5, rfl, H⟩
def L_X12_isWord_13  (x1 : Int) (x2 : Int) (x3 : Nat) (x4 : Int) (u : Mu) (P : Int ⊕ ((Unit) ⊕ (Unit)) → Prop) : Prop :=
  (if x2 ≤ x4 then P (.inr (.inl ())) else F_X12_byteAt (w32 (x1 + x4)) u (fun x_24 => (x3 < 44 ∧ (0 ≤ x4 ∧ x4 < sLen x3 ∧ (if x_24 = sCh x3 x4 then P (.inl (w32 (x4 + 1))) else P (.inr (.inr ())))))))
theorem U_X12_isWord_13  {x1 : Int} {x2 : Int} {x3 : Nat} {x4 : Int} {u : Mu} {P : Int ⊕ ((Unit) ⊕ (Unit)) → Prop} {h : Hp} {g : Nat → Nat} {post : Option Sv ⊕ String → Hp → Prop} (r_x1 : R32 x1) (r_x2 : R32 x2) (r_x4 : R32 x4) (m : Ms h g u)  (hl : ∀ (x4 : Int), P (.inl x4) → R32 x4 → J mX12_isWord 7 0 0 post 13 [some (vr (some (g 0))), some (ii (x1)), some (ii (x2)), some (vs (x3)), some (ii (x4))] [] h) (he0 : P (.inr (.inl ())) → J mX12_isWord 7 0 0 post 44 [none, none, none, none, none] [] h) (he1 : P (.inr (.inr ())) → J mX12_isWord 7 0 0 post 36 [none, none, none, none, none] [] h) (H : L_X12_isWord_13 x1 x2 x3 x4 u P) : J mX12_isWord 7 0 0 post 13 [some (vr (some (g 0))), some (ii (x1)), some (ii (x2)), some (vs (x3)), some (ii (x4))] [] h := by
  unfold L_X12_isWord_13 at H
  refine j_iload (dk dt_X12_isWord 8 rfl) rfl ?_
  refine j_iload_n (dk dt_X12_isWord 9 rfl) rfl ?_
  refine jz_icmp_ge 44 (dk dt_X12_isWord 10 rfl) (by decide) r_x4 r_x2 H (fun H => ?_) (fun H => ?_)
  · exact j_el (he0  H ) trivial
  · refine j_aload_n (dk dt_X12_isWord 11 rfl) rfl ?_
    refine j_iload_n (dk dt_X12_isWord 12 rfl) rfl ?_
    refine j_iload (dk dt_X12_isWord 13 rfl) rfl ?_
    refine jz_iadd (dk dt_X12_isWord 14 rfl) ?_
    refine jz_callV1 (dk dt_X12_isWord 15 rfl) vl_X12_270 rfl (T_X12_byteAt (r32_w _) m H) m.1.1 rfl (by decide) (Nat.zero_le _) (Nat.zero_le _) (Nat.le_of_ble_eq_true rfl) (fun v_24 h_24 P_24 => ?_)
    obtain ⟨x_24, rfl, r_24, rfl, H⟩ := P_24
    dsimp only [rs]
    refine j_aloadS_n (dk dt_X12_isWord 16 rfl) rfl ?_
    refine j_iload (dk dt_X12_isWord 17 rfl) rfl ?_
    obtain ⟨l_30, H⟩ := H
    obtain ⟨p_30, q_30, H⟩ := H
    refine jz_scharAt (dk dt_X12_isWord 18 rfl) sv_X12_273 l_30 p_30 q_30 (by decide) (Nat.le_of_ble_eq_true rfl) ?_
    refine jz_icmp_eq 38 (dk dt_X12_isWord 19 rfl) (by decide) r_24 (r32_sCh _ _) H (fun H => ?_) (fun H => ?_)
    · refine jz_iinc (dk dt_X12_isWord 22 rfl) rfl ?_
      refine j_goto 13 (dk dt_X12_isWord 23 rfl) (by decide) ?_
      exact j_el (hl _ H (r32_w _)) (And.intro rfl (And.intro rfl (And.intro rfl (And.intro rfl (And.intro rfl trivial)))))
    · exact j_el (he1  H ) trivial
def F_X12_isWord_13  (x1 : Int) (x2 : Int) (x3 : Nat) (x4 : Int) (u : Mu) (P : Int → Prop) : Prop :=
  lp (S := Int) (E := (Unit) ⊕ (Unit)) (fun q P_ => L_X12_isWord_13 x1 x2 x3 q u P_) x4 (fun e => match e with | (.inl _) => P 1 | (.inr _) => P 0)
theorem T_X12_isWord_13  {x1 : Int} {x2 : Int} {x3 : Nat} {x4 : Int} {u : Mu} {P : Int → Prop} {h : Hp} {g : Nat → Nat} (r_x1 : R32 x1) (r_x2 : R32 x2) (r_x4 : R32 x4) (m : Ms h g u)   (H : F_X12_isWord_13 x1 x2 x3 x4 u P) : J mX12_isWord 7 0 0 (nx (QPI h P)) 13 [some (vr (some (g 0))), some (ii (x1)), some (ii (x2)), some (vs (x3)), some (ii (x4))] [] h := by
  unfold F_X12_isWord_13 at H
  refine lp_J (G := fun q => R32 (q) → J mX12_isWord 7 0 0 (nx (QPI h P)) 13 [some (vr (some (g 0))), some (ii (x1)), some (ii (x2)), some (vs (x3)), some (ii ((q)))] [] h) (fun x4 P_ hl_ he_ Hb => ?_) x4 H r_x4
  intro r_x4
  refine U_X12_isWord_13 (P := P_) r_x1 r_x2 r_x4 m  (fun x4 Hp r_x4 => hl_ x4 Hp r_x4) ?_ ?_ Hb
  · intro Hp
    have H := he_ _ Hp
    refine j_iconst (v := Int32.ofInt 1) (dk dt_X12_isWord 24 rfl) (by decide) ?_
    exact j_ireturn (dk dt_X12_isWord 25 rfl) rfl (nar_z (by decide)) ⟨_, rfl, (by decide), rfl, H⟩
  · intro Hp
    have H := he_ _ Hp
    refine j_iconst (v := Int32.ofInt 0) (dk dt_X12_isWord 20 rfl) (by decide) ?_
    exact j_ireturn (dk dt_X12_isWord 21 rfl) rfl (nar_z (by decide)) ⟨_, rfl, (by decide), rfl, H⟩
def F_X12_isWord  (x1 : Int) (x2 : Int) (x3 : Nat) (u : Mu) (P : Int → Prop) : Prop :=
  (x3 < 44 ∧ (if sLen x3 = x2 then F_X12_isWord_13 x1 x2 x3 0 u P else P 0))
theorem T_X12_isWord  {x1 : Int} {x2 : Int} {x3 : Nat} {u : Mu} {P : Int → Prop} {h : Hp} {g : Nat → Nat} (r_x1 : R32 x1) (r_x2 : R32 x2) (m : Ms h g u)  (H : F_X12_isWord x1 x2 x3 u P) : Con mX12_isWord 7 0 0 [vr (some (g 0)), ii (x1), ii (x2), vs (x3)] h (QPI h P) := by
  refine con_of rfl (Nat.le_of_ble_eq_true rfl) (by decide) ?_
  show J mX12_isWord 7 0 0 _ 0 [some (vr (some (g 0))), some (ii (x1)), some (ii (x2)), some (vs (x3)), none] [] h
  unfold F_X12_isWord at H
  refine j_aloadS_n (dk dt_X12_isWord 0 rfl) rfl ?_
  obtain ⟨l_1, H⟩ := H
  refine jz_slength (dk dt_X12_isWord 1 rfl) sv_X12_264 l_1 (by decide) (Nat.le_of_ble_eq_true rfl) ?_
  refine j_iload_n (dk dt_X12_isWord 2 rfl) rfl ?_
  refine jz_icmp_eq 10 (dk dt_X12_isWord 3 rfl) (by decide) (r32_sLen _) r_x2 H (fun H => ?_) (fun H => ?_)
  · refine j_iconst (v := Int32.ofInt 0) (dk dt_X12_isWord 6 rfl) (by decide) ?_
    refine j_istore (dk dt_X12_isWord 7 rfl) (by decide) ?_
    exact j_el (T_X12_isWord_13 r_x1 r_x2 (by decide) m   H) (And.intro rfl (And.intro rfl (And.intro rfl (And.intro rfl (And.intro rfl trivial)))))
  · refine j_iconst (v := Int32.ofInt 0) (dk dt_X12_isWord 4 rfl) (by decide) ?_
    exact j_ireturn (dk dt_X12_isWord 5 rfl) rfl (nar_z (by decide)) ⟨_, rfl, (by decide), rfl, H⟩
def L_X12_kept_8  (x2 : Int) (x3 : Int) (x4 : Int) (u : Mu) (P : (Int × Mu) ⊕ ((Mu)) → Prop) : Prop :=
  (if x2 ≤ x4 then P (.inr u) else (0 ≤ x4 ∧ x4 < 400 ∧ (0 ≤ mI u 0 19 ∧ mI u 0 19 < 82400 ∧ (∀ u_30, u_30 = uI u 18 (mI u 0 19) (w8 (mI u 39 x4)) → (∀ u_38, u_38 = uI u_30 0 19 (w32 (mI u_30 0 19 + 1)) → P (.inl (w32 (x4 + 1), u_38)))))))
theorem U_X12_kept_8  {x2 : Int} {x3 : Int} {x4 : Int} {u : Mu} {P : (Int × Mu) ⊕ ((Mu)) → Prop} {h : Hp} {g : Nat → Nat} {post : Option Sv ⊕ String → Hp → Prop} (r_x2 : R32 x2) (r_x3 : R32 x3) (r_x4 : R32 x4) (m : Ms h g u)  (hl : ∀ (x4 : Int) (u : Mu) (h : Hp), P (.inl (x4, u)) → Ms h g u → R32 x4 → J mX12_kept 1 0 0 post 8 [some (vr (some (g 0))), none, some (ii (x2)), some (ii (x3)), some (ii (x4))] [] h) (he0 : ∀ (u : Mu) (h : Hp), P (.inr u) → Ms h g u → J mX12_kept 1 0 0 post 47 [none, none, none, some (ii (x3)), none] [] h) (H : L_X12_kept_8 x2 x3 x4 u P) : J mX12_kept 1 0 0 post 8 [some (vr (some (g 0))), none, some (ii (x2)), some (ii (x3)), some (ii (x4))] [] h := by
  unfold L_X12_kept_8 at H
  refine j_iload (dk dt_X12_kept 5 rfl) rfl ?_
  refine j_iload_n (dk dt_X12_kept 6 rfl) rfl ?_
  refine jz_icmp_ge 47 (dk dt_X12_kept 7 rfl) (by decide) r_x4 r_x2 H (fun H => ?_) (fun H => ?_)
  · exact j_el (he0 _ _ H m) (And.intro rfl trivial)
  · refine j_aload_n (dk dt_X12_kept 8 rfl) rfl ?_
    refine jm_getA (dk dt_X12_kept 9 rfl) fl_X12_49 rfl (c := 13) rfl m ?_
    refine j_aload_n (dk dt_X12_kept 10 rfl) rfl ?_
    refine jm_getI (kz := 19) (dk dt_X12_kept 11 rfl) fl_X12_255 rfl rfl m ?_
    refine j_aload_n (dk dt_X12_kept 12 rfl) rfl ?_
    refine jm_getA (dk dt_X12_kept 13 rfl) fl_X12_106 rfl (c := 14) rfl m ?_
    refine j_iload (dk dt_X12_kept 14 rfl) rfl ?_
    obtain ⟨p_28, q_28, H⟩ := H
    refine jm_iald (dk dt_X12_kept 15 rfl) rfl rfl m p_28 q_28 ?_
    refine jz_i2b (dk dt_X12_kept 16 rfl) ?_
    obtain ⟨p_30, q_30, H⟩ := H
    refine jm_bast (dk dt_X12_kept 17 rfl) rfl rfl m p_30 q_30 (b8_w _) (fun h_30 m_30 => ?_)
    replace H := H _ rfl
    refine j_aload_n (dk dt_X12_kept 18 rfl) rfl ?_
    refine j_dup (dk dt_X12_kept 19 rfl) rfl ?_
    refine jm_getI (kz := 19) (dk dt_X12_kept 20 rfl) fl_X12_255 rfl rfl m_30 ?_
    refine j_iconst (v := Int32.ofInt 1) (dk dt_X12_kept 21 rfl) (by decide) ?_
    refine jz_iadd (dk dt_X12_kept 22 rfl) ?_
    refine jm_putI (kz := 19) (dk dt_X12_kept 23 rfl) fl_X12_255 rfl rfl rfl rfl m_30 (r32_w _) (fun h_38 m_38 => ?_)
    replace H := H _ rfl
    refine jz_iinc (dk dt_X12_kept 24 rfl) rfl ?_
    refine j_goto 8 (dk dt_X12_kept 25 rfl) (by decide) ?_
    exact j_el (hl _ _ _ H m_38 (r32_w _)) (And.intro rfl (And.intro rfl (And.intro rfl (And.intro rfl trivial))))
def F_X12_kept_8  (x2 : Int) (x3 : Int) (x4 : Int) (u : Mu) (P : Int → Mu → Prop) : Prop :=
  lp (S := Int × Mu) (E := (Mu)) (fun q P_ => L_X12_kept_8 x2 x3 q.1 q.2 P_) (x4, u) (fun (u : Mu) => P x3 u)
theorem T_X12_kept_8  {x2 : Int} {x3 : Int} {x4 : Int} {u : Mu} {P : Int → Mu → Prop} {h : Hp} {g : Nat → Nat} (r_x2 : R32 x2) (r_x3 : R32 x3) (r_x4 : R32 x4) (m : Ms h g u)   (H : F_X12_kept_8 x2 x3 x4 u P) : J mX12_kept 1 0 0 (nx (QMI g P)) 8 [some (vr (some (g 0))), none, some (ii (x2)), some (ii (x3)), some (ii (x4))] [] h := by
  unfold F_X12_kept_8 at H
  refine lp_J (G := fun q => ∀ h : Hp, Ms h g (q.2) → R32 (q.1) → J mX12_kept 1 0 0 (nx (QMI g P)) 8 [some (vr (some (g 0))), none, some (ii (x2)), some (ii (x3)), some (ii ((q.1)))] [] h) (fun q P_ hl_ he_ Hb => ?_) (x4, u) H _ m r_x4
  obtain ⟨x4, u⟩ := q
  intro h m r_x4
  refine U_X12_kept_8 (P := P_) r_x2 r_x3 r_x4 m  (fun x4 u h Hp m r_x4 => hl_ (x4, u) Hp h m r_x4) ?_ Hb
  · intro u h Hp m
    have H := he_ _ Hp
    refine j_iload_n (dk dt_X12_kept 26 rfl) rfl ?_
    exact j_ireturn (dk dt_X12_kept 27 rfl) rfl rfl ⟨_, _, rfl, r_x3, m, H⟩
def F_X12_kept  (x1 : Int) (x2 : Int) (u : Mu) (P : Int → Mu → Prop) : Prop :=
  F_X12_kept_8 x2 (mI u 0 19) x1 u P
theorem T_X12_kept  {x1 : Int} {x2 : Int} {u : Mu} {P : Int → Mu → Prop} {h : Hp} {g : Nat → Nat} (r_x1 : R32 x1) (r_x2 : R32 x2) (m : Ms h g u)  (H : F_X12_kept x1 x2 u P) : Con mX12_kept 1 0 0 [vr (some (g 0)), ii (x1), ii (x2)] h (QMI g P) := by
  refine con_of rfl (Nat.le_of_ble_eq_true rfl) (by decide) ?_
  show J mX12_kept 1 0 0 _ 0 [some (vr (some (g 0))), some (ii (x1)), some (ii (x2)), none, none] [] h
  unfold F_X12_kept at H
  refine j_aload_n (dk dt_X12_kept 0 rfl) rfl ?_
  refine jm_getI (kz := 19) (dk dt_X12_kept 1 rfl) fl_X12_255 rfl rfl m ?_
  refine j_istore_n (dk dt_X12_kept 2 rfl) (by decide) ?_
  refine j_iload_n (dk dt_X12_kept 3 rfl) rfl ?_
  refine j_istore (dk dt_X12_kept 4 rfl) (by decide) ?_
  exact j_el (T_X12_kept_8 r_x2 (m.2.1.1 _ _) r_x1 m   H) (And.intro rfl (And.intro rfl (And.intro rfl (And.intro rfl trivial))))
def L_X12_numberFrom_5  (x2 : Int) (x3 : Int) (x5 : Int) (u : Mu) (P : (Int × Int) ⊕ ((Int)) → Prop) : Prop :=
  (if x2 ≤ x5 then P (.inr x3) else (0 ≤ x5 ∧ x5 < 400 ∧ P (.inl (w64 ((w64 ((w64 (10 * x3)) + (mI u 39 x5))) - 48), w32 (x5 + 1)))))
theorem U_X12_numberFrom_5  {x2 : Int} {x3 : Int} {x5 : Int} {u : Mu} {P : (Int × Int) ⊕ ((Int)) → Prop} {h : Hp} {g : Nat → Nat} {post : Option Sv ⊕ String → Hp → Prop} (r_x2 : R32 x2) (r_x3 : R64 x3) (r_x5 : R32 x5) (m : Ms h g u)  (hl : ∀ (x3 : Int) (x5 : Int), P (.inl (x3, x5)) → R64 x3 → R32 x5 → J mX12_numberFrom 1 0 0 post 5 [some (vr (some (g 0))), none, some (ii (x2)), some (ll (x3)), none, some (ii (x5))] [] h) (he0 : ∀ (x3 : Int), P (.inr x3) → R64 x3 → J mX12_numberFrom 1 0 0 post 36 [none, none, none, some (ll (x3)), none, none] [] h) (H : L_X12_numberFrom_5 x2 x3 x5 u P) : J mX12_numberFrom 1 0 0 post 5 [some (vr (some (g 0))), none, some (ii (x2)), some (ll (x3)), none, some (ii (x5))] [] h := by
  unfold L_X12_numberFrom_5 at H
  refine j_iload (dk dt_X12_numberFrom 4 rfl) rfl ?_
  refine j_iload_n (dk dt_X12_numberFrom 5 rfl) rfl ?_
  refine jz_icmp_ge 36 (dk dt_X12_numberFrom 6 rfl) (by decide) r_x5 r_x2 H (fun H => ?_) (fun H => ?_)
  · exact j_el (he0 _ H r_x3) (And.intro rfl trivial)
  · refine j_ldc2 (v := Int64.ofInt (10)) (dk dt_X12_numberFrom 7 rfl) (by exact kl_X12_286) ?_
    refine j_lload_n (dk dt_X12_numberFrom 8 rfl) rfl ?_
    refine jz_lmul (dk dt_X12_numberFrom 9 rfl) ?_
    refine j_aload_n (dk dt_X12_numberFrom 10 rfl) rfl ?_
    refine jm_getA (dk dt_X12_numberFrom 11 rfl) fl_X12_106 rfl (c := 14) rfl m ?_
    refine j_iload (dk dt_X12_numberFrom 12 rfl) rfl ?_
    obtain ⟨p_22, q_22, H⟩ := H
    refine jm_iald (dk dt_X12_numberFrom 13 rfl) rfl rfl m p_22 q_22 ?_
    refine jz_i2l (dk dt_X12_numberFrom 14 rfl) (m.2.1.1 _ _) ?_
    refine jz_ladd (dk dt_X12_numberFrom 15 rfl) ?_
    refine j_ldc2 (v := Int64.ofInt (48)) (dk dt_X12_numberFrom 16 rfl) (by exact kl_X12_288) ?_
    refine jz_lsub (dk dt_X12_numberFrom 17 rfl) ?_
    refine j_lstore_n (dk dt_X12_numberFrom 18 rfl) (by decide) ?_
    refine jz_iinc (dk dt_X12_numberFrom 19 rfl) rfl ?_
    refine j_goto 5 (dk dt_X12_numberFrom 20 rfl) (by decide) ?_
    exact j_el (hl _ _ H (r64_w _) (r32_w _)) (And.intro rfl (And.intro rfl (And.intro rfl (And.intro rfl trivial))))
def F_X12_numberFrom_5  (x2 : Int) (x3 : Int) (x5 : Int) (u : Mu) (P : Int → Prop) : Prop :=
  lp (S := Int × Int) (E := (Int)) (fun q P_ => L_X12_numberFrom_5 x2 q.1 q.2 u P_) (x3, x5) (fun (x3 : Int) => P x3)
theorem T_X12_numberFrom_5  {x2 : Int} {x3 : Int} {x5 : Int} {u : Mu} {P : Int → Prop} {h : Hp} {g : Nat → Nat} (r_x2 : R32 x2) (r_x3 : R64 x3) (r_x5 : R32 x5) (m : Ms h g u)   (H : F_X12_numberFrom_5 x2 x3 x5 u P) : J mX12_numberFrom 1 0 0 (nx (QPJ h P)) 5 [some (vr (some (g 0))), none, some (ii (x2)), some (ll (x3)), none, some (ii (x5))] [] h := by
  unfold F_X12_numberFrom_5 at H
  refine lp_J (G := fun q => R64 (q.1) → R32 (q.2) → J mX12_numberFrom 1 0 0 (nx (QPJ h P)) 5 [some (vr (some (g 0))), none, some (ii (x2)), some (ll ((q.1))), none, some (ii ((q.2)))] [] h) (fun q P_ hl_ he_ Hb => ?_) (x3, x5) H r_x3 r_x5
  obtain ⟨x3, x5⟩ := q
  intro r_x3 r_x5
  refine U_X12_numberFrom_5 (P := P_) r_x2 r_x3 r_x5 m  (fun x3 x5 Hp r_x3 r_x5 => hl_ (x3, x5) Hp r_x3 r_x5) ?_ Hb
  · intro x3 Hp r_x3
    have H := he_ _ Hp
    refine j_lload_n (dk dt_X12_numberFrom 21 rfl) rfl ?_
    exact j_lreturn (dk dt_X12_numberFrom 22 rfl) rfl ⟨_, rfl, r_x3, rfl, H⟩
def F_X12_numberFrom  (x1 : Int) (x2 : Int) (u : Mu) (P : Int → Prop) : Prop :=
  F_X12_numberFrom_5 x2 0 x1 u P
theorem T_X12_numberFrom  {x1 : Int} {x2 : Int} {u : Mu} {P : Int → Prop} {h : Hp} {g : Nat → Nat} (r_x1 : R32 x1) (r_x2 : R32 x2) (m : Ms h g u)  (H : F_X12_numberFrom x1 x2 u P) : Con mX12_numberFrom 1 0 0 [vr (some (g 0)), ii (x1), ii (x2)] h (QPJ h P) := by
  refine con_of rfl (Nat.le_of_ble_eq_true rfl) (by decide) ?_
  show J mX12_numberFrom 1 0 0 _ 0 [some (vr (some (g 0))), some (ii (x1)), some (ii (x2)), none, none, none] [] h
  unfold F_X12_numberFrom at H
  refine j_lconst (v := Int64.ofInt 0) (dk dt_X12_numberFrom 0 rfl) (by decide) ?_
  refine j_lstore_n (dk dt_X12_numberFrom 1 rfl) (by decide) ?_
  refine j_iload_n (dk dt_X12_numberFrom 2 rfl) rfl ?_
  refine j_istore (dk dt_X12_numberFrom 3 rfl) (by decide) ?_
  exact j_el (T_X12_numberFrom_5 r_x2 (by decide) r_x1 m   H) (And.intro rfl (And.intro rfl (And.intro rfl (And.intro rfl trivial))))
def F_X12_plain  (x1 : Int) (x2 : Int) (x4 : Int) (x5 : Int) (u : Mu) (P : Int → Mu → Prop) : Prop :=
  (0 ≤ mI u 0 24 ∧ mI u 0 24 < 4200 ∧ (∀ u_9, u_9 = uI u 20 (mI u 0 24) x1 → (0 ≤ mI u_9 0 24 ∧ mI u_9 0 24 < 4200 ∧ (∀ u_19, u_19 = uG u_9 21 (mI u_9 0 24) x2 → (0 ≤ mI u_19 0 24 ∧ mI u_19 0 24 < 4200 ∧ (∀ u_30, u_30 = uI u_19 22 (mI u_19 0 24) x4 → (0 ≤ mI u_30 0 24 ∧ mI u_30 0 24 < 4200 ∧ (∀ u_41, u_41 = uI u_30 23 (mI u_30 0 24) x5 → (∀ u_49, u_49 = uI u_41 0 24 (w32 (mI u_41 0 24 + 1)) → P (w32 ((w32 (100000 + (mI u_49 0 24))) - 1)) u_49)))))))))
theorem T_X12_plain  {x1 : Int} {x2 : Int} {x4 : Int} {x5 : Int} {u : Mu} {P : Int → Mu → Prop} {h : Hp} {g : Nat → Nat} (r_x1 : R32 x1) (r_x2 : R64 x2) (r_x4 : R32 x4) (r_x5 : R32 x5) (m : Ms h g u)  (H : F_X12_plain x1 x2 x4 x5 u P) : Con mX12_plain 1 0 0 [vr (some (g 0)), ii (x1), ll (x2), ii (x4), ii (x5)] h (QMI g P) := by
  refine con_of rfl (Nat.le_of_ble_eq_true rfl) (by decide) ?_
  show J mX12_plain 1 0 0 _ 0 [some (vr (some (g 0))), some (ii (x1)), some (ll (x2)), none, some (ii (x4)), some (ii (x5))] [] h
  unfold F_X12_plain at H
  refine j_aload_n (dk dt_X12_plain 0 rfl) rfl ?_
  refine jm_getA (dk dt_X12_plain 1 rfl) fl_X12_53 rfl (c := 14) rfl m ?_
  refine j_aload_n (dk dt_X12_plain 2 rfl) rfl ?_
  refine jm_getI (kz := 24) (dk dt_X12_plain 3 rfl) fl_X12_252 rfl rfl m ?_
  refine j_iload_n (dk dt_X12_plain 4 rfl) rfl ?_
  obtain ⟨p_9, q_9, H⟩ := H
  refine jm_iast (dk dt_X12_plain 5 rfl) rfl rfl m p_9 q_9 r_x1 (fun h_9 m_9 => ?_)
  replace H := H _ rfl
  refine j_aload_n (dk dt_X12_plain 6 rfl) rfl ?_
  refine jm_getA (dk dt_X12_plain 7 rfl) fl_X12_56 rfl (c := 15) rfl m_9 ?_
  refine j_aload_n (dk dt_X12_plain 8 rfl) rfl ?_
  refine jm_getI (kz := 24) (dk dt_X12_plain 9 rfl) fl_X12_252 rfl rfl m_9 ?_
  refine j_lload_n (dk dt_X12_plain 10 rfl) rfl ?_
  obtain ⟨p_19, q_19, H⟩ := H
  refine jm_last (dk dt_X12_plain 11 rfl) rfl rfl m_9 p_19 q_19 r_x2 (fun h_19 m_19 => ?_)
  replace H := H _ rfl
  refine j_aload_n (dk dt_X12_plain 12 rfl) rfl ?_
  refine jm_getA (dk dt_X12_plain 13 rfl) fl_X12_60 rfl (c := 14) rfl m_19 ?_
  refine j_aload_n (dk dt_X12_plain 14 rfl) rfl ?_
  refine jm_getI (kz := 24) (dk dt_X12_plain 15 rfl) fl_X12_252 rfl rfl m_19 ?_
  refine j_iload (dk dt_X12_plain 16 rfl) rfl ?_
  obtain ⟨p_30, q_30, H⟩ := H
  refine jm_iast (dk dt_X12_plain 17 rfl) rfl rfl m_19 p_30 q_30 r_x4 (fun h_30 m_30 => ?_)
  replace H := H _ rfl
  refine j_aload_n (dk dt_X12_plain 18 rfl) rfl ?_
  refine jm_getA (dk dt_X12_plain 19 rfl) fl_X12_63 rfl (c := 14) rfl m_30 ?_
  refine j_aload_n (dk dt_X12_plain 20 rfl) rfl ?_
  refine jm_getI (kz := 24) (dk dt_X12_plain 21 rfl) fl_X12_252 rfl rfl m_30 ?_
  refine j_iload (dk dt_X12_plain 22 rfl) rfl ?_
  obtain ⟨p_41, q_41, H⟩ := H
  refine jm_iast (dk dt_X12_plain 23 rfl) rfl rfl m_30 p_41 q_41 r_x5 (fun h_41 m_41 => ?_)
  replace H := H _ rfl
  refine j_aload_n (dk dt_X12_plain 24 rfl) rfl ?_
  refine j_dup (dk dt_X12_plain 25 rfl) rfl ?_
  refine jm_getI (kz := 24) (dk dt_X12_plain 26 rfl) fl_X12_252 rfl rfl m_41 ?_
  refine j_iconst (v := Int32.ofInt 1) (dk dt_X12_plain 27 rfl) (by decide) ?_
  refine jz_iadd (dk dt_X12_plain 28 rfl) ?_
  refine jm_putI (kz := 24) (dk dt_X12_plain 29 rfl) fl_X12_252 rfl rfl rfl rfl m_41 (r32_w _) (fun h_49 m_49 => ?_)
  replace H := H _ rfl
  refine j_ldc (v := Int32.ofInt (100000)) (dk dt_X12_plain 30 rfl) (by exact kl_X12_240) ?_
  refine j_aload_n (dk dt_X12_plain 31 rfl) rfl ?_
  refine jm_getI (kz := 24) (dk dt_X12_plain 32 rfl) fl_X12_252 rfl rfl m_49 ?_
  refine jz_iadd (dk dt_X12_plain 33 rfl) ?_
  refine j_iconst (v := Int32.ofInt 1) (dk dt_X12_plain 34 rfl) (by decide) ?_
  refine jz_isub (dk dt_X12_plain 35 rfl) ?_
  exact j_ireturn (dk dt_X12_plain 36 rfl) rfl rfl ⟨_, _, rfl, (r32_w _), m_49, H⟩
