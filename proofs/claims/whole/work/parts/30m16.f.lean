def F_X12_value_72  (s0 : Int) (u : Mu) (P : Int → Mu → Prop) : Prop :=
  P s0 u
theorem T_X12_value_72  {s0 : Int} {u : Mu} {P : Int → Mu → Prop} {h : Hp} {g : Nat → Nat} (r_s0 : R64 s0) (m : Ms h g u)   (H : F_X12_value_72 s0 u P) : J mX12_value 415 0 0 (nx (QMJ g P)) 72 [none, none, none, none, none] [ll (s0)] h := by
  unfold F_X12_value_72 at H
  exact j_lreturn (dk dt_X12_value 40 rfl) rfl ⟨_, _, rfl, r_s0, m, H⟩
def F_X12_value  (x1 : Int) (x2 : Int) (x3 : Int) (u : Mu) (P : Int → Mu → Prop) : Prop :=
  (∀ u_2, u_2 = uI u 0 0 0 → F_X12_asked x1 x2 x3 u_2 (fun x_9 => (if 0 ≤ x_9 then F_X12_sheetAt x1 (fun x_23 => F_X12_needValues x_23 u_2 (fun u_26 => (0 ≤ x_9 ∧ x_9 < 13120 ∧ (if mI u_26 60 x_9 = 0 then F_X12_value_72 0 u_26 P else (if mI u_26 60 x_9 = 2 then (0 ≤ x_9 ∧ x_9 < 13120 ∧ F_X12_value_72 (mI u_26 62 x_9) u_26 P) else (0 ≤ x_9 ∧ x_9 < 13120 ∧ F_X12_value_72 (mG u_26 61 x_9) u_26 P)))))) else P 0 u_2)))
theorem T_X12_value  {x1 : Int} {x2 : Int} {x3 : Int} {u : Mu} {P : Int → Mu → Prop} {h : Hp} {g : Nat → Nat} (r_x1 : R32 x1) (r_x2 : R32 x2) (r_x3 : R32 x3) (m : Ms h g u)  (H : F_X12_value x1 x2 x3 u P) : Con mX12_value 415 0 0 [vr (some (g 0)), ii (x1), ii (x2), ii (x3)] h (QMJ g P) := by
  refine con_of rfl (Nat.le_of_ble_eq_true rfl) (by decide) ?_
  show J mX12_value 415 0 0 _ 0 [some (vr (some (g 0))), some (ii (x1)), some (ii (x2)), some (ii (x3)), none] [] h
  unfold F_X12_value at H
  refine j_aload_n (dk dt_X12_value 0 rfl) rfl ?_
  refine j_iconst (v := Int32.ofInt 0) (dk dt_X12_value 1 rfl) (by decide) ?_
  refine jm_putI (kz := 0) (dk dt_X12_value 2 rfl) fl_X12_202 rfl rfl rfl rfl m (by decide) (fun h_2 m_2 => ?_)
  replace H := H _ rfl
  refine j_aload_n (dk dt_X12_value 3 rfl) rfl ?_
  refine j_iload_n (dk dt_X12_value 4 rfl) rfl ?_
  refine j_iload_n (dk dt_X12_value 5 rfl) rfl ?_
  refine j_iload_n (dk dt_X12_value 6 rfl) rfl ?_
  refine jz_callV3 (dk dt_X12_value 7 rfl) vl_X12_740 rfl (T_X12_asked r_x1 r_x2 r_x3 m_2 H) m_2.1.1 rfl (by decide) (Nat.zero_le _) (Nat.zero_le _) (Nat.le_of_ble_eq_true rfl) (fun v_9 h_9 P_9 => ?_)
  obtain ⟨x_9, rfl, r_9, rfl, H⟩ := P_9
  dsimp only [rs]
  refine j_istore (dk dt_X12_value 8 rfl) (by decide) ?_
  refine j_iload (dk dt_X12_value 9 rfl) rfl ?_
  refine jz_if_ge 21 (dk dt_X12_value 10 rfl) (by decide) r_9 H (fun H => ?_) (fun H => ?_)
  · refine j_aload_n (dk dt_X12_value 13 rfl) rfl ?_
    refine j_iload_n (dk dt_X12_value 14 rfl) rfl ?_
    refine j_callS1 (dk dt_X12_value 15 rfl) sl_X12_737 (T_X12_sheetAt r_x1 H) rfl (by decide) (Nat.zero_le _) (Nat.zero_le _) (Nat.le_of_ble_eq_true rfl) (fun v_23 h_23 P_23 => ?_)
    obtain ⟨x_23, rfl, r_23, rfl, H⟩ := P_23
    dsimp only [rs]
    refine jz_callV1 (dk dt_X12_value 16 rfl) vl_X12_743 rfl (T_X12_needValues r_23 m_2 H) m_2.1.1 rfl (by decide) (Nat.zero_le _) (Nat.zero_le _) (Nat.le_of_ble_eq_true rfl) (fun v_26 h_26 P_26 => ?_)
    obtain ⟨u_26, rfl, m_26, H⟩ := P_26
    dsimp only [rs]
    refine j_aload_n (dk dt_X12_value 17 rfl) rfl ?_
    refine jm_getA (dk dt_X12_value 18 rfl) fl_X12_109 rfl (c := 14) rfl m_26 ?_
    refine j_iload (dk dt_X12_value 19 rfl) rfl ?_
    obtain ⟨p_35, q_35, H⟩ := H
    refine jm_iald (dk dt_X12_value 20 rfl) rfl rfl m_26 p_35 q_35 ?_
    refine jz_if_ne 43 (dk dt_X12_value 21 rfl) (by decide) (m_26.2.1.1 _ _) H (fun H => ?_) (fun H => ?_)
    · refine j_lconst (v := Int64.ofInt 0) (dk dt_X12_value 22 rfl) (by decide) ?_
      refine j_goto 72 (dk dt_X12_value 23 rfl) (by decide) ?_
      exact j_el (T_X12_value_72 (by decide) m_26   H) trivial
    · refine j_aload_n (dk dt_X12_value 24 rfl) rfl ?_
      refine jm_getA (dk dt_X12_value 25 rfl) fl_X12_109 rfl (c := 14) rfl m_26 ?_
      refine j_iload (dk dt_X12_value 26 rfl) rfl ?_
      refine jm_iald (dk dt_X12_value 27 rfl) rfl rfl m_26 p_35 q_35 ?_
      refine j_iconst (v := Int32.ofInt 2) (dk dt_X12_value 28 rfl) (by decide) ?_
      refine jz_icmp_ne 65 (dk dt_X12_value 29 rfl) (by decide) (m_26.2.1.1 _ _) (by decide) H (fun H => ?_) (fun H => ?_)
      · refine j_aload_n (dk dt_X12_value 30 rfl) rfl ?_
        refine jm_getA (dk dt_X12_value 31 rfl) fl_X12_115 rfl (c := 14) rfl m_26 ?_
        refine j_iload (dk dt_X12_value 32 rfl) rfl ?_
        obtain ⟨p_60, q_60, H⟩ := H
        refine jm_iald (dk dt_X12_value 33 rfl) rfl rfl m_26 p_60 q_60 ?_
        refine jz_i2l (dk dt_X12_value 34 rfl) (m_26.2.1.1 _ _) ?_
        refine j_goto 72 (dk dt_X12_value 35 rfl) (by decide) ?_
        exact j_el (T_X12_value_72 (r64_3 (m_26.2.1.1 _ _)) m_26   H) trivial
      · refine j_aload_n (dk dt_X12_value 36 rfl) rfl ?_
        refine jm_getA (dk dt_X12_value 37 rfl) fl_X12_112 rfl (c := 15) rfl m_26 ?_
        refine j_iload (dk dt_X12_value 38 rfl) rfl ?_
        obtain ⟨p_71, q_71, H⟩ := H
        refine jm_lald (dk dt_X12_value 39 rfl) rfl rfl m_26 p_71 q_71 ?_
        exact j_el (T_X12_value_72 (m_26.2.1.2.1 _ _) m_26   H) trivial
  · refine j_lconst (v := Int64.ofInt 0) (dk dt_X12_value 11 rfl) (by decide) ?_
    exact j_lreturn (dk dt_X12_value 12 rfl) rfl ⟨_, _, rfl, (by decide), m_2, H⟩
def F_X12_write_140  (u : Mu) (P : Mu → Prop) : Prop :=
  P u
theorem T_X12_write_140  {u : Mu} {P : Mu → Prop} {h : Hp} {g : Nat → Nat}  (m : Ms h g u)   (H : F_X12_write_140 u P) : J mX12_write 411 0 0 (nx (QMV g P)) 140 [none, none, none, none] [] h := by
  unfold F_X12_write_140 at H
  exact j_return (dk dt_X12_write 79 rfl) rfl ⟨_, rfl, m, H⟩
def F_X12_write_93  (s1 : Nat) (u : Mu) (P : Mu → Prop) : Prop :=
  F_X12_say s1 u (fun u_93 => F_X12_write_140 u_93 P)
theorem T_X12_write_93  {s1 : Nat} {u : Mu} {P : Mu → Prop} {h : Hp} {g : Nat → Nat}  (m : Ms h g u)   (H : F_X12_write_93 s1 u P) : J mX12_write 411 0 0 (nx (QMV g P)) 93 [none, none, none, none] [vs (s1), vr (some (g 0))] h := by
  unfold F_X12_write_93 at H
  refine jz_callV1 (dk dt_X12_write 53 rfl) vl_X12_786 rfl (T_X12_say m H) m.1.1 rfl (by decide) (Nat.zero_le _) (Nat.zero_le _) (Nat.le_of_ble_eq_true rfl) (fun v_93 h_93 P_93 => ?_)
  obtain ⟨u_93, rfl, m_93, H⟩ := P_93
  dsimp only [rs]
  refine j_goto 140 (dk dt_X12_write 54 rfl) (by decide) ?_
  exact j_el (T_X12_write_140  m_93   H) trivial
def F_X12_write_124  (x3 : Int) (u : Mu) (P : Mu → Prop) : Prop :=
  (0 ≤ x3 ∧ x3 < 4200 ∧ (0 ≤ x3 ∧ x3 < 4200 ∧ F_X12_putLetters (mI u 22 x3) (mI u 23 x3) u (fun u_137 => F_X12_write_140 u_137 P)))
theorem T_X12_write_124  {x3 : Int} {u : Mu} {P : Mu → Prop} {h : Hp} {g : Nat → Nat} (r_x3 : R32 x3) (m : Ms h g u)   (H : F_X12_write_124 x3 u P) : J mX12_write 411 0 0 (nx (QMV g P)) 124 [some (vr (some (g 0))), none, none, some (ii (x3))] [] h := by
  unfold F_X12_write_124 at H
  refine j_aload_n (dk dt_X12_write 69 rfl) rfl ?_
  refine j_aload_n (dk dt_X12_write 70 rfl) rfl ?_
  refine jm_getA (dk dt_X12_write 71 rfl) fl_X12_60 rfl (c := 14) rfl m ?_
  refine j_iload_n (dk dt_X12_write 72 rfl) rfl ?_
  obtain ⟨p_130, q_130, H⟩ := H
  refine jm_iald (dk dt_X12_write 73 rfl) rfl rfl m p_130 q_130 ?_
  refine j_aload_n (dk dt_X12_write 74 rfl) rfl ?_
  refine jm_getA (dk dt_X12_write 75 rfl) fl_X12_63 rfl (c := 14) rfl m ?_
  refine j_iload_n (dk dt_X12_write 76 rfl) rfl ?_
  obtain ⟨p_136, q_136, H⟩ := H
  refine jm_iald (dk dt_X12_write 77 rfl) rfl rfl m p_136 q_136 ?_
  refine jz_callV2 (dk dt_X12_write 78 rfl) vl_X12_796 rfl (T_X12_putLetters (m.2.1.1 _ _) (m.2.1.1 _ _) m H) m.1.1 rfl (by decide) (Nat.zero_le _) (Nat.zero_le _) (Nat.le_of_ble_eq_true rfl) (fun v_137 h_137 P_137 => ?_)
  obtain ⟨u_137, rfl, m_137, H⟩ := P_137
  dsimp only [rs]
  exact j_el (T_X12_write_140  m_137   H) trivial
def F_X12_write  (x1 : Int) (x2 : Int) (u : Mu) (P : Mu → Prop) : Prop :=
  (∀ u_2, u_2 = uI u 0 87 0 → (if x2 = 0 then P u_2 else F_X12_isFormula x2 (fun x_11 => (if x_11 = 0 then (0 ≤ w32 (x2 - 100000) ∧ w32 (x2 - 100000) < 4200 ∧ (if mI u_2 20 (w32 (x2 - 100000)) = 1 then (0 ≤ w32 (x2 - 100000) ∧ w32 (x2 - 100000) < 4200 ∧ F_X12_putNumber (mG u_2 21 (w32 (x2 - 100000))) u_2 (fun u_56 => F_X12_write_140 u_56 P)) else (if mI u_2 20 (w32 (x2 - 100000)) = 3 then (0 ≤ w32 (x2 - 100000) ∧ w32 (x2 - 100000) < 4200 ∧ (if mG u_2 21 (w32 (x2 - 100000)) = 1 then F_X12_write_93 11 u_2 P else F_X12_write_93 12 u_2 P)) else (0 ≤ w32 (x2 - 100000) ∧ w32 (x2 - 100000) < 4200 ∧ (0 ≤ w32 (x2 - 100000) ∧ w32 (x2 - 100000) < 4200 ∧ F_X12_needsMark (mI u_2 22 (w32 (x2 - 100000))) (mI u_2 23 (w32 (x2 - 100000))) u_2 (fun x_112 => (if x_112 = 0 then F_X12_write_124 (w32 (x2 - 100000)) u_2 P else F_X12_put 39 u_2 (fun u_121 => F_X12_write_124 (w32 (x2 - 100000)) u_121 P)))))))) else F_X12_put 61 u_2 (fun u_20 => F_X12_wholeOf x2 u_20 (fun x_26 => (∃ n_30, n_30 ≤ 400 ∧ F_X12_putPart n_30 x_26 x1 u_20 (fun u_30 => P u_30))))))))
theorem T_X12_write  {x1 : Int} {x2 : Int} {u : Mu} {P : Mu → Prop} {h : Hp} {g : Nat → Nat} (r_x1 : R32 x1) (r_x2 : R32 x2) (m : Ms h g u)  (H : F_X12_write x1 x2 u P) : Con mX12_write 411 0 0 [vr (some (g 0)), ii (x1), ii (x2)] h (QMV g P) := by
  refine con_of rfl (Nat.le_of_ble_eq_true rfl) (by decide) ?_
  show J mX12_write 411 0 0 _ 0 [some (vr (some (g 0))), some (ii (x1)), some (ii (x2)), none] [] h
  unfold F_X12_write at H
  refine j_aload_n (dk dt_X12_write 0 rfl) rfl ?_
  refine j_iconst (v := Int32.ofInt 0) (dk dt_X12_write 1 rfl) (by decide) ?_
  refine jm_putI (kz := 87) (dk dt_X12_write 2 rfl) fl_X12_746 rfl rfl rfl rfl m (by decide) (fun h_2 m_2 => ?_)
  replace H := H _ rfl
  refine j_iload_n (dk dt_X12_write 3 rfl) rfl ?_
  refine jz_if_ne 10 (dk dt_X12_write 4 rfl) (by decide) r_x2 H (fun H => ?_) (fun H => ?_)
  · exact j_return (dk dt_X12_write 5 rfl) rfl ⟨_, rfl, m_2, H⟩
  · refine j_iload_n (dk dt_X12_write 6 rfl) rfl ?_
    refine j_callS1 (dk dt_X12_write 7 rfl) sl_X12_244 (T_X12_isFormula r_x2 H) rfl (by decide) (Nat.zero_le _) (Nat.zero_le _) (Nat.le_of_ble_eq_true rfl) (fun v_11 h_11 P_11 => ?_)
    obtain ⟨x_11, rfl, r_11, rfl, H⟩ := P_11
    dsimp only [rs]
    refine jz_if_eq 34 (dk dt_X12_write 8 rfl) (by decide) r_11 H (fun H => ?_) (fun H => ?_)
    · refine j_iload_n (dk dt_X12_write 19 rfl) rfl ?_
      refine j_ldc (v := Int32.ofInt (100000)) (dk dt_X12_write 20 rfl) (by exact kl_X12_240) ?_
      refine jz_isub (dk dt_X12_write 21 rfl) ?_
      refine j_istore_n (dk dt_X12_write 22 rfl) (by decide) ?_
      refine j_aload_n (dk dt_X12_write 23 rfl) rfl ?_
      refine jm_getA (dk dt_X12_write 24 rfl) fl_X12_53 rfl (c := 14) rfl m_2 ?_
      refine j_iload_n (dk dt_X12_write 25 rfl) rfl ?_
      obtain ⟨p_44, q_44, H⟩ := H
      refine jm_iald (dk dt_X12_write 26 rfl) rfl rfl m_2 p_44 q_44 ?_
      refine j_iconst (v := Int32.ofInt 1) (dk dt_X12_write 27 rfl) (by decide) ?_
      refine jz_icmp_ne 62 (dk dt_X12_write 28 rfl) (by decide) (m_2.2.1.1 _ _) (by decide) H (fun H => ?_) (fun H => ?_)
      · refine j_aload_n (dk dt_X12_write 29 rfl) rfl ?_
        refine j_aload_n (dk dt_X12_write 30 rfl) rfl ?_
        refine jm_getA (dk dt_X12_write 31 rfl) fl_X12_56 rfl (c := 15) rfl m_2 ?_
        refine j_iload_n (dk dt_X12_write 32 rfl) rfl ?_
        obtain ⟨p_55, q_55, H⟩ := H
        refine jm_lald (dk dt_X12_write 33 rfl) rfl rfl m_2 p_55 q_55 ?_
        refine jz_callV1 (dk dt_X12_write 34 rfl) vl_X12_782 rfl (T_X12_putNumber (m_2.2.1.2.1 _ _) m_2 H) m_2.1.1 rfl (by decide) (Nat.zero_le _) (Nat.zero_le _) (Nat.le_of_ble_eq_true rfl) (fun v_56 h_56 P_56 => ?_)
        obtain ⟨u_56, rfl, m_56, H⟩ := P_56
        dsimp only [rs]
        refine j_goto 140 (dk dt_X12_write 35 rfl) (by decide) ?_
        exact j_el (T_X12_write_140  m_56   H) trivial
      · refine j_aload_n (dk dt_X12_write 36 rfl) rfl ?_
        refine jm_getA (dk dt_X12_write 37 rfl) fl_X12_53 rfl (c := 14) rfl m_2 ?_
        refine j_iload_n (dk dt_X12_write 38 rfl) rfl ?_
        refine jm_iald (dk dt_X12_write 39 rfl) rfl rfl m_2 p_44 q_44 ?_
        refine j_iconst (v := Int32.ofInt 3) (dk dt_X12_write 40 rfl) (by decide) ?_
        refine jz_icmp_ne 99 (dk dt_X12_write 41 rfl) (by decide) (m_2.2.1.1 _ _) (by decide) H (fun H => ?_) (fun H => ?_)
        · refine j_aload_n (dk dt_X12_write 42 rfl) rfl ?_
          refine j_aload_n (dk dt_X12_write 43 rfl) rfl ?_
          refine jm_getA (dk dt_X12_write 44 rfl) fl_X12_56 rfl (c := 15) rfl m_2 ?_
          refine j_iload_n (dk dt_X12_write 45 rfl) rfl ?_
          obtain ⟨p_78, q_78, H⟩ := H
          refine jm_lald (dk dt_X12_write 46 rfl) rfl rfl m_2 p_78 q_78 ?_
          refine j_lconst (v := Int64.ofInt 1) (dk dt_X12_write 47 rfl) (by decide) ?_
          refine jz_lcmp (dk dt_X12_write 48 rfl) (m_2.2.1.2.1 _ _) (by decide) ?_
          refine jz_lif_ne 90 (dk dt_X12_write 49 rfl) (by decide) H (fun H => ?_) (fun H => ?_)
          · refine j_ldcwS 11 rfl (dk dt_X12_write 50 rfl) rfl rfl ?_
            refine j_goto 93 (dk dt_X12_write 51 rfl) (by decide) ?_
            exact j_el (T_X12_write_93  m_2   H) trivial
          · refine j_ldcwS 12 rfl (dk dt_X12_write 52 rfl) rfl rfl ?_
            exact j_el (T_X12_write_93  m_2   H) trivial
        · refine j_aload_n (dk dt_X12_write 55 rfl) rfl ?_
          refine j_aload_n (dk dt_X12_write 56 rfl) rfl ?_
          refine jm_getA (dk dt_X12_write 57 rfl) fl_X12_60 rfl (c := 14) rfl m_2 ?_
          refine j_iload_n (dk dt_X12_write 58 rfl) rfl ?_
          obtain ⟨p_105, q_105, H⟩ := H
          refine jm_iald (dk dt_X12_write 59 rfl) rfl rfl m_2 p_105 q_105 ?_
          refine j_aload_n (dk dt_X12_write 60 rfl) rfl ?_
          refine jm_getA (dk dt_X12_write 61 rfl) fl_X12_63 rfl (c := 14) rfl m_2 ?_
          refine j_iload_n (dk dt_X12_write 62 rfl) rfl ?_
          obtain ⟨p_111, q_111, H⟩ := H
          refine jm_iald (dk dt_X12_write 63 rfl) rfl rfl m_2 p_111 q_111 ?_
          refine jz_callV2 (dk dt_X12_write 64 rfl) vl_X12_809 rfl (T_X12_needsMark (m_2.2.1.1 _ _) (m_2.2.1.1 _ _) m_2 H) m_2.1.1 rfl (by decide) (Nat.zero_le _) (Nat.zero_le _) (Nat.le_of_ble_eq_true rfl) (fun v_112 h_112 P_112 => ?_)
          obtain ⟨x_112, rfl, r_112, rfl, H⟩ := P_112
          dsimp only [rs]
          refine jz_if_eq 124 (dk dt_X12_write 65 rfl) (by decide) r_112 H (fun H => ?_) (fun H => ?_)
          · exact j_el (T_X12_write_124 (r32_w _) m_2   H) (And.intro rfl (And.intro rfl trivial))
          · refine j_aload_n (dk dt_X12_write 66 rfl) rfl ?_
            refine j_bipush (v := Int32.ofInt 39) (dk dt_X12_write 67 rfl) (by decide) ?_
            refine jz_callV1 (dk dt_X12_write 68 rfl) vl_X12_749 rfl (T_X12_put (by decide) m_2 H) m_2.1.1 rfl (by decide) (Nat.zero_le _) (Nat.zero_le _) (Nat.le_of_ble_eq_true rfl) (fun v_121 h_121 P_121 => ?_)
            obtain ⟨u_121, rfl, m_121, H⟩ := P_121
            dsimp only [rs]
            exact j_el (T_X12_write_124 (r32_w _) m_121   H) (And.intro rfl (And.intro rfl trivial))
    · refine j_aload_n (dk dt_X12_write 9 rfl) rfl ?_
      refine j_bipush (v := Int32.ofInt 61) (dk dt_X12_write 10 rfl) (by decide) ?_
      refine jz_callV1 (dk dt_X12_write 11 rfl) vl_X12_749 rfl (T_X12_put (by decide) m_2 H) m_2.1.1 rfl (by decide) (Nat.zero_le _) (Nat.zero_le _) (Nat.le_of_ble_eq_true rfl) (fun v_20 h_20 P_20 => ?_)
      obtain ⟨u_20, rfl, m_20, H⟩ := P_20
      dsimp only [rs]
      refine j_aload_n (dk dt_X12_write 12 rfl) rfl ?_
      refine j_aload_n (dk dt_X12_write 13 rfl) rfl ?_
      refine j_iload_n (dk dt_X12_write 14 rfl) rfl ?_
      refine jz_callV1 (dk dt_X12_write 15 rfl) vl_X12_708 rfl (T_X12_wholeOf r_x2 m_20 H) m_20.1.1 rfl (by decide) (Nat.zero_le _) (Nat.zero_le _) (Nat.le_of_ble_eq_true rfl) (fun v_26 h_26 P_26 => ?_)
      obtain ⟨x_26, rfl, r_26, rfl, H⟩ := P_26
      dsimp only [rs]
      refine j_iload_n (dk dt_X12_write 16 rfl) rfl ?_
      obtain ⟨n_30, hn_30, H⟩ := H
      refine jz_callV2 (dk dt_X12_write 17 rfl) vl_X12_779 rfl (T_X12_putPart (n := n_30) r_26 r_x1 m_20 H) m_20.1.1 rfl (by omega) (Nat.zero_le _) (Nat.zero_le _) (Nat.le_of_ble_eq_true rfl) (fun v_30 h_30 P_30 => ?_)
      obtain ⟨u_30, rfl, m_30, H⟩ := P_30
      dsimp only [rs]
      exact j_return (dk dt_X12_write 18 rfl) rfl ⟨_, rfl, m_30, H⟩
def F_X12_written_61  (s0 : Int) (u : Mu) (P : Int → Mu → Prop) : Prop :=
  P s0 u
theorem T_X12_written_61  {s0 : Int} {u : Mu} {P : Int → Mu → Prop} {h : Hp} {g : Nat → Nat} (r_s0 : R32 s0) (m : Ms h g u)   (H : F_X12_written_61 s0 u P) : J mX12_written 412 0 0 (nx (QMI g P)) 61 [none, none, none, none, none] [ii (s0)] h := by
  unfold F_X12_written_61 at H
  exact j_ireturn (dk dt_X12_written 35 rfl) rfl rfl ⟨_, _, rfl, r_s0, m, H⟩
def F_X12_written  (x1 : Int) (x2 : Int) (x3 : Int) (x4 : Int) (u : Mu) (P : Int → Mu → Prop) : Prop :=
  (∀ u_2, u_2 = uI u 0 0 0 → F_X12_asked x1 x2 x3 u_2 (fun x_9 => (if 0 ≤ x_9 then F_X12_sheetAt x1 (fun x_19 => F_X12_sheetAt x1 (fun x_24 => F_X12_cellAt x_24 x2 x3 u_2 (fun x_29 => F_X12_write x_19 x_29 u_2 (fun u_32 => F_X12_in x4 0 (w32 ((mI u_32 0 87) - 1)) (fun x_44 => (if x_44 = 0 then F_X12_written_61 (-1) u_32 P else (0 ≤ x4 ∧ x4 < 2000 ∧ F_X12_written_61 (mI u_32 86 x4) u_32 P))))))) else P (-1) u_2)))
theorem T_X12_written  {x1 : Int} {x2 : Int} {x3 : Int} {x4 : Int} {u : Mu} {P : Int → Mu → Prop} {h : Hp} {g : Nat → Nat} (r_x1 : R32 x1) (r_x2 : R32 x2) (r_x3 : R32 x3) (r_x4 : R32 x4) (m : Ms h g u)  (H : F_X12_written x1 x2 x3 x4 u P) : Con mX12_written 412 0 0 [vr (some (g 0)), ii (x1), ii (x2), ii (x3), ii (x4)] h (QMI g P) := by
  refine con_of rfl (Nat.le_of_ble_eq_true rfl) (by decide) ?_
  show J mX12_written 412 0 0 _ 0 [some (vr (some (g 0))), some (ii (x1)), some (ii (x2)), some (ii (x3)), some (ii (x4))] [] h
  unfold F_X12_written at H
  refine j_aload_n (dk dt_X12_written 0 rfl) rfl ?_
  refine j_iconst (v := Int32.ofInt 0) (dk dt_X12_written 1 rfl) (by decide) ?_
  refine jm_putI (kz := 0) (dk dt_X12_written 2 rfl) fl_X12_202 rfl rfl rfl rfl m (by decide) (fun h_2 m_2 => ?_)
  replace H := H _ rfl
  refine j_aload_n (dk dt_X12_written 3 rfl) rfl ?_
  refine j_iload_n (dk dt_X12_written 4 rfl) rfl ?_
  refine j_iload_n (dk dt_X12_written 5 rfl) rfl ?_
  refine j_iload_n (dk dt_X12_written 6 rfl) rfl ?_
  refine jz_callV3 (dk dt_X12_written 7 rfl) vl_X12_740 rfl (T_X12_asked r_x1 r_x2 r_x3 m_2 H) m_2.1.1 rfl (by decide) (Nat.zero_le _) (Nat.zero_le _) (Nat.le_of_ble_eq_true rfl) (fun v_9 h_9 P_9 => ?_)
  obtain ⟨x_9, rfl, r_9, rfl, H⟩ := P_9
  dsimp only [rs]
  refine jz_if_ge 17 (dk dt_X12_written 8 rfl) (by decide) r_9 H (fun H => ?_) (fun H => ?_)
  · refine j_aload_n (dk dt_X12_written 11 rfl) rfl ?_
    refine j_iload_n (dk dt_X12_written 12 rfl) rfl ?_
    refine j_callS1 (dk dt_X12_written 13 rfl) sl_X12_737 (T_X12_sheetAt r_x1 H) rfl (by decide) (Nat.zero_le _) (Nat.zero_le _) (Nat.le_of_ble_eq_true rfl) (fun v_19 h_19 P_19 => ?_)
    obtain ⟨x_19, rfl, r_19, rfl, H⟩ := P_19
    dsimp only [rs]
    refine j_aload_n (dk dt_X12_written 14 rfl) rfl ?_
    refine j_iload_n (dk dt_X12_written 15 rfl) rfl ?_
    refine j_callS1 (dk dt_X12_written 16 rfl) sl_X12_737 (T_X12_sheetAt r_x1 H) rfl (by decide) (Nat.zero_le _) (Nat.zero_le _) (Nat.le_of_ble_eq_true rfl) (fun v_24 h_24 P_24 => ?_)
    obtain ⟨x_24, rfl, r_24, rfl, H⟩ := P_24
    dsimp only [rs]
    refine j_iload_n (dk dt_X12_written 17 rfl) rfl ?_
    refine j_iload_n (dk dt_X12_written 18 rfl) rfl ?_
    refine jz_callV3 (dk dt_X12_written 19 rfl) vl_X12_812 rfl (T_X12_cellAt r_24 r_x2 r_x3 m_2 H) m_2.1.1 rfl (by decide) (Nat.zero_le _) (Nat.zero_le _) (Nat.le_of_ble_eq_true rfl) (fun v_29 h_29 P_29 => ?_)
    obtain ⟨x_29, rfl, r_29, rfl, H⟩ := P_29
    dsimp only [rs]
    refine jz_callV2 (dk dt_X12_written 20 rfl) vl_X12_815 rfl (T_X12_write r_19 r_29 m_2 H) m_2.1.1 rfl (by decide) (Nat.zero_le _) (Nat.zero_le _) (Nat.le_of_ble_eq_true rfl) (fun v_32 h_32 P_32 => ?_)
    obtain ⟨u_32, rfl, m_32, H⟩ := P_32
    dsimp only [rs]
    refine j_iload (dk dt_X12_written 21 rfl) rfl ?_
    refine j_iconst (v := Int32.ofInt 0) (dk dt_X12_written 22 rfl) (by decide) ?_
    refine j_aload_n (dk dt_X12_written 23 rfl) rfl ?_
    refine jm_getI (kz := 87) (dk dt_X12_written 24 rfl) fl_X12_746 rfl rfl m_32 ?_
    refine j_iconst (v := Int32.ofInt 1) (dk dt_X12_written 25 rfl) (by decide) ?_
    refine jz_isub (dk dt_X12_written 26 rfl) ?_
    refine j_callS3 (dk dt_X12_written 27 rfl) sl_X12_220 (T_X12_in r_x4 (by decide) (r32_w _) H) rfl (by decide) (Nat.zero_le _) (Nat.zero_le _) (Nat.le_of_ble_eq_true rfl) (fun v_44 h_44 P_44 => ?_)
    obtain ⟨x_44, rfl, r_44, rfl, H⟩ := P_44
    dsimp only [rs]
    refine jz_if_eq 60 (dk dt_X12_written 28 rfl) (by decide) r_44 H (fun H => ?_) (fun H => ?_)
    · refine j_iconst (v := Int32.ofInt (-1)) (dk dt_X12_written 34 rfl) (by decide) ?_
      exact j_el (T_X12_written_61 (by decide) m_32   H) trivial
    · refine j_aload_n (dk dt_X12_written 29 rfl) rfl ?_
      refine jm_getA (dk dt_X12_written 30 rfl) fl_X12_153 rfl (c := 13) rfl m_32 ?_
      refine j_iload (dk dt_X12_written 31 rfl) rfl ?_
      obtain ⟨p_56, q_56, H⟩ := H
      refine jm_bald (dk dt_X12_written 32 rfl) rfl rfl m_32 p_56 q_56 ?_
      refine j_goto 61 (dk dt_X12_written 33 rfl) (by decide) ?_
      exact j_el (T_X12_written_61 (m_32.2.1.1 _ _) m_32   H) trivial
  · refine j_iconst (v := Int32.ofInt (-1)) (dk dt_X12_written 9 rfl) (by decide) ?_
    exact j_ireturn (dk dt_X12_written 10 rfl) rfl rfl ⟨_, _, rfl, (by decide), m_2, H⟩
