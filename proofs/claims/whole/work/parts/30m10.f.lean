def F_X12_reckon_108  (u : Mu) (P : Mu → Prop) : Prop :=
  P u
theorem T_X12_reckon_108  {u : Mu} {P : Mu → Prop} {h : Hp} {g : Nat → Nat}  (m : Ms h g u)   (H : F_X12_reckon_108 u P) : J mX12_reckon 3 0 0 (nx (QMV g P)) 108 [none, none, none, none, none, none, none] [] h := by
  unfold F_X12_reckon_108 at H
  exact j_return (dk dt_X12_reckon 63 rfl) rfl ⟨_, rfl, m, H⟩
def F_X12_reckon_105  (s1 : Int) (s2 : Int) (u : Mu) (P : Mu → Prop) : Prop :=
  F_X12_number s1 s2 u (fun u_105 => F_X12_reckon_108 u_105 P)
theorem T_X12_reckon_105  {s1 : Int} {s2 : Int} {u : Mu} {P : Mu → Prop} {h : Hp} {g : Nat → Nat} (r_s1 : R32 s1) (r_s2 : R64 s2) (m : Ms h g u)   (H : F_X12_reckon_105 s1 s2 u P) : J mX12_reckon 3 0 0 (nx (QMV g P)) 105 [none, none, none, none, none, none, none] [ll (s2), ii (s1), vr (some (g 0))] h := by
  unfold F_X12_reckon_105 at H
  refine jz_callV2 (dk dt_X12_reckon 62 rfl) vl_X12_537 rfl (T_X12_number r_s1 r_s2 m H) m.1.1 rfl (by decide) (Nat.zero_le _) (Nat.zero_le _) (Nat.le_of_ble_eq_true rfl) (fun v_105 h_105 P_105 => ?_)
  obtain ⟨u_105, rfl, m_105, H⟩ := P_105
  dsimp only [rs]
  exact j_el (T_X12_reckon_108  m_105   H) trivial
def F_X12_reckon  (x1 : Int) (x2 : Int) (u : Mu) (P : Mu → Prop) : Prop :=
  (0 ≤ x1 ∧ x1 < 200 ∧ (0 ≤ w32 (x1 + 1) ∧ w32 (x1 + 1) < 200 ∧ (if x2 = 17 then F_X12_number x1 (w64 ((mG u 67 x1) + (mG u 67 (w32 (x1 + 1))))) u (fun u_29 => F_X12_reckon_108 u_29 P) else (if x2 = 18 then F_X12_number x1 (w64 ((mG u 67 x1) - (mG u 67 (w32 (x1 + 1))))) u (fun u_47 => F_X12_reckon_108 u_47 P) else (if x2 = 19 then F_X12_times x1 (mG u 67 x1) (mG u 67 (w32 (x1 + 1))) u (fun u_64 => F_X12_reckon_108 u_64 P) else (if mG u 67 (w32 (x1 + 1)) = 0 then F_X12_error x1 2 u (fun u_80 => F_X12_reckon_108 u_80 P) else (if x2 = 20 then (¬ mG u 67 (w32 (x1 + 1)) = 0 ∧ F_X12_reckon_105 x1 (w64 (Int.tdiv (mG u 67 x1) (mG u 67 (w32 (x1 + 1))))) u P) else (¬ mG u 67 (w32 (x1 + 1)) = 0 ∧ F_X12_reckon_105 x1 (w64 (Int.tmod (mG u 67 x1) (mG u 67 (w32 (x1 + 1))))) u P))))))))
theorem T_X12_reckon  {x1 : Int} {x2 : Int} {u : Mu} {P : Mu → Prop} {h : Hp} {g : Nat → Nat} (r_x1 : R32 x1) (r_x2 : R32 x2) (m : Ms h g u)  (H : F_X12_reckon x1 x2 u P) : Con mX12_reckon 3 0 0 [vr (some (g 0)), ii (x1), ii (x2)] h (QMV g P) := by
  refine con_of rfl (Nat.le_of_ble_eq_true rfl) (by decide) ?_
  show J mX12_reckon 3 0 0 _ 0 [some (vr (some (g 0))), some (ii (x1)), some (ii (x2)), none, none, none, none] [] h
  unfold F_X12_reckon at H
  refine j_aload_n (dk dt_X12_reckon 0 rfl) rfl ?_
  refine jm_getA (dk dt_X12_reckon 1 rfl) fl_X12_129 rfl (c := 15) rfl m ?_
  refine j_iload_n (dk dt_X12_reckon 2 rfl) rfl ?_
  obtain ⟨p_5, q_5, H⟩ := H
  refine jm_lald (dk dt_X12_reckon 3 rfl) rfl rfl m p_5 q_5 ?_
  refine j_lstore_n (dk dt_X12_reckon 4 rfl) (by decide) ?_
  refine j_aload_n (dk dt_X12_reckon 5 rfl) rfl ?_
  refine jm_getA (dk dt_X12_reckon 6 rfl) fl_X12_129 rfl (c := 15) rfl m ?_
  refine j_iload_n (dk dt_X12_reckon 7 rfl) rfl ?_
  refine j_iconst (v := Int32.ofInt 1) (dk dt_X12_reckon 8 rfl) (by decide) ?_
  refine jz_iadd (dk dt_X12_reckon 9 rfl) ?_
  obtain ⟨p_14, q_14, H⟩ := H
  refine jm_lald (dk dt_X12_reckon 10 rfl) rfl rfl m p_14 q_14 ?_
  refine j_lstore (dk dt_X12_reckon 11 rfl) (by decide) ?_
  refine j_iload_n (dk dt_X12_reckon 12 rfl) rfl ?_
  refine j_bipush (v := Int32.ofInt 17) (dk dt_X12_reckon 13 rfl) (by decide) ?_
  refine jz_icmp_ne 35 (dk dt_X12_reckon 14 rfl) (by decide) r_x2 (by decide) H (fun H => ?_) (fun H => ?_)
  · refine j_aload_n (dk dt_X12_reckon 15 rfl) rfl ?_
    refine j_iload_n (dk dt_X12_reckon 16 rfl) rfl ?_
    refine j_lload_n (dk dt_X12_reckon 17 rfl) rfl ?_
    refine j_lload (dk dt_X12_reckon 18 rfl) rfl ?_
    refine jz_ladd (dk dt_X12_reckon 19 rfl) ?_
    refine jz_callV2 (dk dt_X12_reckon 20 rfl) vl_X12_537 rfl (T_X12_number r_x1 (r64_w _) m H) m.1.1 rfl (by decide) (Nat.zero_le _) (Nat.zero_le _) (Nat.le_of_ble_eq_true rfl) (fun v_29 h_29 P_29 => ?_)
    obtain ⟨u_29, rfl, m_29, H⟩ := P_29
    dsimp only [rs]
    refine j_goto 108 (dk dt_X12_reckon 21 rfl) (by decide) ?_
    exact j_el (T_X12_reckon_108  m_29   H) trivial
  · refine j_iload_n (dk dt_X12_reckon 22 rfl) rfl ?_
    refine j_bipush (v := Int32.ofInt 18) (dk dt_X12_reckon 23 rfl) (by decide) ?_
    refine jz_icmp_ne 53 (dk dt_X12_reckon 24 rfl) (by decide) r_x2 (by decide) H (fun H => ?_) (fun H => ?_)
    · refine j_aload_n (dk dt_X12_reckon 25 rfl) rfl ?_
      refine j_iload_n (dk dt_X12_reckon 26 rfl) rfl ?_
      refine j_lload_n (dk dt_X12_reckon 27 rfl) rfl ?_
      refine j_lload (dk dt_X12_reckon 28 rfl) rfl ?_
      refine jz_lsub (dk dt_X12_reckon 29 rfl) ?_
      refine jz_callV2 (dk dt_X12_reckon 30 rfl) vl_X12_537 rfl (T_X12_number r_x1 (r64_w _) m H) m.1.1 rfl (by decide) (Nat.zero_le _) (Nat.zero_le _) (Nat.le_of_ble_eq_true rfl) (fun v_47 h_47 P_47 => ?_)
      obtain ⟨u_47, rfl, m_47, H⟩ := P_47
      dsimp only [rs]
      refine j_goto 108 (dk dt_X12_reckon 31 rfl) (by decide) ?_
      exact j_el (T_X12_reckon_108  m_47   H) trivial
    · refine j_iload_n (dk dt_X12_reckon 32 rfl) rfl ?_
      refine j_bipush (v := Int32.ofInt 19) (dk dt_X12_reckon 33 rfl) (by decide) ?_
      refine jz_icmp_ne 70 (dk dt_X12_reckon 34 rfl) (by decide) r_x2 (by decide) H (fun H => ?_) (fun H => ?_)
      · refine j_aload_n (dk dt_X12_reckon 35 rfl) rfl ?_
        refine j_iload_n (dk dt_X12_reckon 36 rfl) rfl ?_
        refine j_lload_n (dk dt_X12_reckon 37 rfl) rfl ?_
        refine j_lload (dk dt_X12_reckon 38 rfl) rfl ?_
        refine jz_callV3 (dk dt_X12_reckon 39 rfl) vl_X12_615 rfl (T_X12_times r_x1 (m.2.1.2.1 _ _) (m.2.1.2.1 _ _) m H) m.1.1 rfl (by decide) (Nat.zero_le _) (Nat.zero_le _) (Nat.le_of_ble_eq_true rfl) (fun v_64 h_64 P_64 => ?_)
        obtain ⟨u_64, rfl, m_64, H⟩ := P_64
        dsimp only [rs]
        refine j_goto 108 (dk dt_X12_reckon 40 rfl) (by decide) ?_
        exact j_el (T_X12_reckon_108  m_64   H) trivial
      · refine j_lload (dk dt_X12_reckon 41 rfl) rfl ?_
        refine j_lconst (v := Int64.ofInt 0) (dk dt_X12_reckon 42 rfl) (by decide) ?_
        refine jz_lcmp (dk dt_X12_reckon 43 rfl) (m.2.1.2.1 _ _) (by decide) ?_
        refine jz_lif_ne 86 (dk dt_X12_reckon 44 rfl) (by decide) H (fun H => ?_) (fun H => ?_)
        · refine j_aload_n (dk dt_X12_reckon 45 rfl) rfl ?_
          refine j_iload_n (dk dt_X12_reckon 46 rfl) rfl ?_
          refine j_iconst (v := Int32.ofInt 2) (dk dt_X12_reckon 47 rfl) (by decide) ?_
          refine jz_callV2 (dk dt_X12_reckon 48 rfl) vl_X12_541 rfl (T_X12_error r_x1 (by decide) m H) m.1.1 rfl (by decide) (Nat.zero_le _) (Nat.zero_le _) (Nat.le_of_ble_eq_true rfl) (fun v_80 h_80 P_80 => ?_)
          obtain ⟨u_80, rfl, m_80, H⟩ := P_80
          dsimp only [rs]
          refine j_goto 108 (dk dt_X12_reckon 49 rfl) (by decide) ?_
          exact j_el (T_X12_reckon_108  m_80   H) trivial
        · refine j_aload_n (dk dt_X12_reckon 50 rfl) rfl ?_
          refine j_iload_n (dk dt_X12_reckon 51 rfl) rfl ?_
          refine j_iload_n (dk dt_X12_reckon 52 rfl) rfl ?_
          refine j_bipush (v := Int32.ofInt 20) (dk dt_X12_reckon 53 rfl) (by decide) ?_
          refine jz_icmp_ne 101 (dk dt_X12_reckon 54 rfl) (by decide) r_x2 (by decide) H (fun H => ?_) (fun H => ?_)
          · refine j_lload_n (dk dt_X12_reckon 55 rfl) rfl ?_
            refine j_lload (dk dt_X12_reckon 56 rfl) rfl ?_
            obtain ⟨n_97, H⟩ := H
            refine jz_ldiv (dk dt_X12_reckon 57 rfl) (m.2.1.2.1 _ _) (m.2.1.2.1 _ _) n_97 ?_
            refine j_goto 105 (dk dt_X12_reckon 58 rfl) (by decide) ?_
            exact j_el (T_X12_reckon_105 r_x1 (r64_w _) m   H) trivial
          · refine j_lload_n (dk dt_X12_reckon 59 rfl) rfl ?_
            refine j_lload (dk dt_X12_reckon 60 rfl) rfl ?_
            obtain ⟨n_104, H⟩ := H
            refine jz_lrem (dk dt_X12_reckon 61 rfl) (m.2.1.2.1 _ _) (m.2.1.2.1 _ _) n_104 ?_
            exact j_el (T_X12_reckon_105 r_x1 (r64_w _) m   H) trivial
