def F_X12_isThere_32  (s0 : Int) (u : Mu) (P : Int → Prop) : Prop :=
  (Z1 s0 ∧ P s0)
theorem T_X12_isThere_32  {s0 : Int} {u : Mu} {P : Int → Prop} {h : Hp} {g : Nat → Nat} (r_s0 : R32 s0) (m : Ms h g u)   (H : F_X12_isThere_32 s0 u P) : J mX12_isThere 3 0 0 (nx (QPI h P)) 32 [none, none, none, none] [ii (s0)] h := by
  unfold F_X12_isThere_32 at H
  obtain ⟨hz_, H⟩ := H
  exact j_ireturn (dk dt_X12_isThere 17 rfl) rfl (nar_z hz_) ⟨_, rfl, r_s0, rfl, H⟩
def F_X12_isThere_31  (u : Mu) (P : Int → Prop) : Prop :=
  F_X12_isThere_32 0 u P
theorem T_X12_isThere_31  {u : Mu} {P : Int → Prop} {h : Hp} {g : Nat → Nat}  (m : Ms h g u)   (H : F_X12_isThere_31 u P) : J mX12_isThere 3 0 0 (nx (QPI h P)) 31 [none, none, none, none] [] h := by
  unfold F_X12_isThere_31 at H
  refine j_iconst (v := Int32.ofInt 0) (dk dt_X12_isThere 16 rfl) (by decide) ?_
  exact j_el (T_X12_isThere_32 (by decide) m   H) trivial
def F_X12_isThere_19  (x2 : Int) (x3 : Int) (s1 : Int) (u : Mu) (P : Int → Prop) : Prop :=
  F_X12_isCell s1 x2 x3 u (fun x_21 => (if x_21 = 0 then F_X12_isThere_31 u P else F_X12_isThere_32 1 u P))
theorem T_X12_isThere_19  {x2 : Int} {x3 : Int} {s1 : Int} {u : Mu} {P : Int → Prop} {h : Hp} {g : Nat → Nat} (r_x2 : R32 x2) (r_x3 : R32 x3) (r_s1 : R32 s1) (m : Ms h g u)   (H : F_X12_isThere_19 x2 x3 s1 u P) : J mX12_isThere 3 0 0 (nx (QPI h P)) 19 [none, none, some (ii (x2)), some (ii (x3))] [ii (s1), vr (some (g 0))] h := by
  unfold F_X12_isThere_19 at H
  refine j_iload_n (dk dt_X12_isThere 10 rfl) rfl ?_
  refine j_iload_n (dk dt_X12_isThere 11 rfl) rfl ?_
  refine jz_callV3 (dk dt_X12_isThere 12 rfl) vl_X12_321 rfl (T_X12_isCell r_s1 r_x2 r_x3 m H) m.1.1 rfl (by decide) (Nat.zero_le _) (Nat.zero_le _) (Nat.le_of_ble_eq_true rfl) (fun v_21 h_21 P_21 => ?_)
  obtain ⟨x_21, rfl, r_21, rfl, H⟩ := P_21
  dsimp only [rs]
  refine jz_if_eq 31 (dk dt_X12_isThere 13 rfl) (by decide) r_21 H (fun H => ?_) (fun H => ?_)
  · exact j_el (T_X12_isThere_31  m   H) trivial
  · refine j_iconst (v := Int32.ofInt 1) (dk dt_X12_isThere 14 rfl) (by decide) ?_
    refine j_goto 32 (dk dt_X12_isThere 15 rfl) (by decide) ?_
    exact j_el (T_X12_isThere_32 (by decide) m   H) trivial
def F_X12_isThere  (x1 : Int) (x2 : Int) (x3 : Int) (u : Mu) (P : Int → Prop) : Prop :=
  (if mI u 0 8 ≤ x1 then F_X12_isThere_31 u P else (if 0 ≤ x1 then F_X12_isThere_19 x2 x3 x1 u P else F_X12_isThere_19 x2 x3 40 u P))
theorem T_X12_isThere  {x1 : Int} {x2 : Int} {x3 : Int} {u : Mu} {P : Int → Prop} {h : Hp} {g : Nat → Nat} (r_x1 : R32 x1) (r_x2 : R32 x2) (r_x3 : R32 x3) (m : Ms h g u)  (H : F_X12_isThere x1 x2 x3 u P) : Con mX12_isThere 3 0 0 [vr (some (g 0)), ii (x1), ii (x2), ii (x3)] h (QPI h P) := by
  refine con_of rfl (Nat.le_of_ble_eq_true rfl) (by decide) ?_
  show J mX12_isThere 3 0 0 _ 0 [some (vr (some (g 0))), some (ii (x1)), some (ii (x2)), some (ii (x3))] [] h
  unfold F_X12_isThere at H
  refine j_iload_n (dk dt_X12_isThere 0 rfl) rfl ?_
  refine j_aload_n (dk dt_X12_isThere 1 rfl) rfl ?_
  refine jm_getI (kz := 8) (dk dt_X12_isThere 2 rfl) fl_X12_33 rfl rfl m ?_
  refine jz_icmp_ge 31 (dk dt_X12_isThere 3 rfl) (by decide) r_x1 (m.2.1.1 _ _) H (fun H => ?_) (fun H => ?_)
  · exact j_el (T_X12_isThere_31  m   H) trivial
  · refine j_aload_n (dk dt_X12_isThere 4 rfl) rfl ?_
    refine j_iload_n (dk dt_X12_isThere 5 rfl) rfl ?_
    refine jz_if_ge 18 (dk dt_X12_isThere 6 rfl) (by decide) r_x1 H (fun H => ?_) (fun H => ?_)
    · refine j_iload_n (dk dt_X12_isThere 9 rfl) rfl ?_
      exact j_el (T_X12_isThere_19 r_x2 r_x3 r_x1 m   H) (And.intro rfl (And.intro rfl trivial))
    · refine j_bipush (v := Int32.ofInt 40) (dk dt_X12_isThere 7 rfl) (by decide) ?_
      refine j_goto 19 (dk dt_X12_isThere 8 rfl) (by decide) ?_
      exact j_el (T_X12_isThere_19 r_x2 r_x3 (by decide) m   H) (And.intro rfl (And.intro rfl trivial))
def F_X12_later_25  (u : Mu) (P : Mu → Prop) : Prop :=
  P u
theorem T_X12_later_25  {u : Mu} {P : Mu → Prop} {h : Hp} {g : Nat → Nat}  (m : Ms h g u)   (H : F_X12_later_25 u P) : J mX12_later 1 0 0 (nx (QMV g P)) 25 [none, none, none] [] h := by
  unfold F_X12_later_25 at H
  exact j_return (dk dt_X12_later 13 rfl) rfl ⟨_, rfl, m, H⟩
def F_X12_later_15  (x1 : Int) (x2 : Int) (u : Mu) (P : Mu → Prop) : Prop :=
  (∀ u_17, u_17 = uI u 0 58 x1 → (∀ u_22, u_22 = uI u_17 0 59 x2 → F_X12_later_25 u_22 P))
theorem T_X12_later_15  {x1 : Int} {x2 : Int} {u : Mu} {P : Mu → Prop} {h : Hp} {g : Nat → Nat} (r_x1 : R32 x1) (r_x2 : R32 x2) (m : Ms h g u)   (H : F_X12_later_15 x1 x2 u P) : J mX12_later 1 0 0 (nx (QMV g P)) 15 [some (vr (some (g 0))), some (ii (x1)), some (ii (x2))] [] h := by
  unfold F_X12_later_15 at H
  refine j_aload_n (dk dt_X12_later 7 rfl) rfl ?_
  refine j_iload_n (dk dt_X12_later 8 rfl) rfl ?_
  refine jm_putI (kz := 58) (dk dt_X12_later 9 rfl) fl_X12_404 rfl rfl rfl rfl m r_x1 (fun h_17 m_17 => ?_)
  replace H := H _ rfl
  refine j_aload_n (dk dt_X12_later 10 rfl) rfl ?_
  refine j_iload_n (dk dt_X12_later 11 rfl) rfl ?_
  refine jm_putI (kz := 59) (dk dt_X12_later 12 rfl) fl_X12_407 rfl rfl rfl rfl m_17 r_x2 (fun h_22 m_22 => ?_)
  replace H := H _ rfl
  exact j_el (T_X12_later_25  m_22   H) trivial
def F_X12_later  (x1 : Int) (x2 : Int) (u : Mu) (P : Mu → Prop) : Prop :=
  (if mI u 0 58 = 0 then F_X12_later_15 x1 x2 u P else (if mI u 0 59 ≤ x2 then F_X12_later_25 u P else F_X12_later_15 x1 x2 u P))
theorem T_X12_later  {x1 : Int} {x2 : Int} {u : Mu} {P : Mu → Prop} {h : Hp} {g : Nat → Nat} (r_x1 : R32 x1) (r_x2 : R32 x2) (m : Ms h g u)  (H : F_X12_later x1 x2 u P) : Con mX12_later 1 0 0 [vr (some (g 0)), ii (x1), ii (x2)] h (QMV g P) := by
  refine con_of rfl (Nat.le_of_ble_eq_true rfl) (by decide) ?_
  show J mX12_later 1 0 0 _ 0 [some (vr (some (g 0))), some (ii (x1)), some (ii (x2))] [] h
  unfold F_X12_later at H
  refine j_aload_n (dk dt_X12_later 0 rfl) rfl ?_
  refine jm_getI (kz := 58) (dk dt_X12_later 1 rfl) fl_X12_404 rfl rfl m ?_
  refine jz_if_eq 15 (dk dt_X12_later 2 rfl) (by decide) (m.2.1.1 _ _) H (fun H => ?_) (fun H => ?_)
  · exact j_el (T_X12_later_15 r_x1 r_x2 m   H) (And.intro rfl (And.intro rfl (And.intro rfl trivial)))
  · refine j_iload_n (dk dt_X12_later 3 rfl) rfl ?_
    refine j_aload_n (dk dt_X12_later 4 rfl) rfl ?_
    refine jm_getI (kz := 59) (dk dt_X12_later 5 rfl) fl_X12_407 rfl rfl m ?_
    refine jz_icmp_ge 25 (dk dt_X12_later 6 rfl) (by decide) r_x2 (m.2.1.1 _ _) H (fun H => ?_) (fun H => ?_)
    · exact j_el (T_X12_later_25  m   H) trivial
    · exact j_el (T_X12_later_15 r_x1 r_x2 m   H) (And.intro rfl (And.intro rfl (And.intro rfl trivial)))
def F_X12_meanOne_10  (x1 : Int) (x2 : Int) (x3 : Int) (x4 : Int) (x5 : Int) (s0 : Int) (u : Mu) (P : Mu → Prop) : Prop :=
  F_X12_lineAt s0 0 (w32 (x3 - 1)) u (fun x_24 => (0 ≤ x1 ∧ x1 < 60420 ∧ (∀ u_27, u_27 = uI u 32 x1 x_24 → F_X12_lineAt s0 1 (w32 (x4 - 1)) u_27 (fun x_41 => (0 ≤ x1 ∧ x1 < 60420 ∧ (∀ u_44, u_44 = uI u_27 33 x1 x_41 → (0 ≤ x1 ∧ x1 < 60420 ∧ (∀ u_52, u_52 = uI u_44 36 x1 x5 → (0 ≤ x1 ∧ x1 < 60420 ∧ (∀ u_59, u_59 = uI u_52 37 x1 x2 → P u_59))))))))))
theorem T_X12_meanOne_10  {x1 : Int} {x2 : Int} {x3 : Int} {x4 : Int} {x5 : Int} {s0 : Int} {u : Mu} {P : Mu → Prop} {h : Hp} {g : Nat → Nat} (r_x1 : R32 x1) (r_x2 : R32 x2) (r_x3 : R32 x3) (r_x4 : R32 x4) (r_x5 : R32 x5) (r_s0 : R32 s0) (m : Ms h g u)   (H : F_X12_meanOne_10 x1 x2 x3 x4 x5 s0 u P) : J mX12_meanOne 2 0 0 (nx (QMV g P)) 10 [some (vr (some (g 0))), some (ii (x1)), some (ii (x2)), some (ii (x3)), some (ii (x4)), some (ii (x5)), none] [ii (s0)] h := by
  unfold F_X12_meanOne_10 at H
  refine j_istore (dk dt_X12_meanOne 5 rfl) (by decide) ?_
  refine j_aload_n (dk dt_X12_meanOne 6 rfl) rfl ?_
  refine jm_getA (dk dt_X12_meanOne 7 rfl) fl_X12_85 rfl (c := 14) rfl m ?_
  refine j_iload_n (dk dt_X12_meanOne 8 rfl) rfl ?_
  refine j_aload_n (dk dt_X12_meanOne 9 rfl) rfl ?_
  refine j_iload (dk dt_X12_meanOne 10 rfl) rfl ?_
  refine j_iconst (v := Int32.ofInt 0) (dk dt_X12_meanOne 11 rfl) (by decide) ?_
  refine j_iload_n (dk dt_X12_meanOne 12 rfl) rfl ?_
  refine j_iconst (v := Int32.ofInt 1) (dk dt_X12_meanOne 13 rfl) (by decide) ?_
  refine jz_isub (dk dt_X12_meanOne 14 rfl) ?_
  refine jz_callV3 (dk dt_X12_meanOne 15 rfl) vl_X12_213 rfl (T_X12_lineAt r_s0 (by decide) (r32_w _) m H) m.1.1 rfl (by decide) (Nat.zero_le _) (Nat.zero_le _) (Nat.le_of_ble_eq_true rfl) (fun v_24 h_24 P_24 => ?_)
  obtain ⟨x_24, rfl, r_24, rfl, H⟩ := P_24
  dsimp only [rs]
  obtain ⟨p_27, q_27, H⟩ := H
  refine jm_iast (dk dt_X12_meanOne 16 rfl) rfl rfl m p_27 q_27 r_24 (fun h_27 m_27 => ?_)
  replace H := H _ rfl
  refine j_aload_n (dk dt_X12_meanOne 17 rfl) rfl ?_
  refine jm_getA (dk dt_X12_meanOne 18 rfl) fl_X12_88 rfl (c := 14) rfl m_27 ?_
  refine j_iload_n (dk dt_X12_meanOne 19 rfl) rfl ?_
  refine j_aload_n (dk dt_X12_meanOne 20 rfl) rfl ?_
  refine j_iload (dk dt_X12_meanOne 21 rfl) rfl ?_
  refine j_iconst (v := Int32.ofInt 1) (dk dt_X12_meanOne 22 rfl) (by decide) ?_
  refine j_iload (dk dt_X12_meanOne 23 rfl) rfl ?_
  refine j_iconst (v := Int32.ofInt 1) (dk dt_X12_meanOne 24 rfl) (by decide) ?_
  refine jz_isub (dk dt_X12_meanOne 25 rfl) ?_
  refine jz_callV3 (dk dt_X12_meanOne 26 rfl) vl_X12_213 rfl (T_X12_lineAt r_s0 (by decide) (r32_w _) m_27 H) m_27.1.1 rfl (by decide) (Nat.zero_le _) (Nat.zero_le _) (Nat.le_of_ble_eq_true rfl) (fun v_41 h_41 P_41 => ?_)
  obtain ⟨x_41, rfl, r_41, rfl, H⟩ := P_41
  dsimp only [rs]
  obtain ⟨p_44, q_44, H⟩ := H
  refine jm_iast (dk dt_X12_meanOne 27 rfl) rfl rfl m_27 p_44 q_44 r_41 (fun h_44 m_44 => ?_)
  replace H := H _ rfl
  refine j_aload_n (dk dt_X12_meanOne 28 rfl) rfl ?_
  refine jm_getA (dk dt_X12_meanOne 29 rfl) fl_X12_97 rfl (c := 14) rfl m_44 ?_
  refine j_iload_n (dk dt_X12_meanOne 30 rfl) rfl ?_
  refine j_iload (dk dt_X12_meanOne 31 rfl) rfl ?_
  obtain ⟨p_52, q_52, H⟩ := H
  refine jm_iast (dk dt_X12_meanOne 32 rfl) rfl rfl m_44 p_52 q_52 r_x5 (fun h_52 m_52 => ?_)
  replace H := H _ rfl
  refine j_aload_n (dk dt_X12_meanOne 33 rfl) rfl ?_
  refine jm_getA (dk dt_X12_meanOne 34 rfl) fl_X12_100 rfl (c := 14) rfl m_52 ?_
  refine j_iload_n (dk dt_X12_meanOne 35 rfl) rfl ?_
  refine j_iload_n (dk dt_X12_meanOne 36 rfl) rfl ?_
  obtain ⟨p_59, q_59, H⟩ := H
  refine jm_iast (dk dt_X12_meanOne 37 rfl) rfl rfl m_52 p_59 q_59 r_x2 (fun h_59 m_59 => ?_)
  replace H := H _ rfl
  exact j_return (dk dt_X12_meanOne 38 rfl) rfl ⟨_, rfl, m_59, H⟩
def F_X12_meanOne  (x1 : Int) (x2 : Int) (x3 : Int) (x4 : Int) (x5 : Int) (u : Mu) (P : Mu → Prop) : Prop :=
  (if 0 ≤ x2 then F_X12_meanOne_10 x1 x2 x3 x4 x5 x2 u P else F_X12_meanOne_10 x1 x2 x3 x4 x5 40 u P)
theorem T_X12_meanOne  {x1 : Int} {x2 : Int} {x3 : Int} {x4 : Int} {x5 : Int} {u : Mu} {P : Mu → Prop} {h : Hp} {g : Nat → Nat} (r_x1 : R32 x1) (r_x2 : R32 x2) (r_x3 : R32 x3) (r_x4 : R32 x4) (r_x5 : R32 x5) (m : Ms h g u)  (H : F_X12_meanOne x1 x2 x3 x4 x5 u P) : Con mX12_meanOne 2 0 0 [vr (some (g 0)), ii (x1), ii (x2), ii (x3), ii (x4), ii (x5)] h (QMV g P) := by
  refine con_of rfl (Nat.le_of_ble_eq_true rfl) (by decide) ?_
  show J mX12_meanOne 2 0 0 _ 0 [some (vr (some (g 0))), some (ii (x1)), some (ii (x2)), some (ii (x3)), some (ii (x4)), some (ii (x5)), none] [] h
  unfold F_X12_meanOne at H
  refine j_iload_n (dk dt_X12_meanOne 0 rfl) rfl ?_
  refine jz_if_ge 9 (dk dt_X12_meanOne 1 rfl) (by decide) r_x2 H (fun H => ?_) (fun H => ?_)
  · refine j_iload_n (dk dt_X12_meanOne 4 rfl) rfl ?_
    exact j_el (T_X12_meanOne_10 r_x1 r_x2 r_x3 r_x4 r_x5 r_x2 m   H) (And.intro rfl (And.intro rfl (And.intro rfl (And.intro rfl (And.intro rfl (And.intro rfl trivial))))))
  · refine j_bipush (v := Int32.ofInt 40) (dk dt_X12_meanOne 2 rfl) (by decide) ?_
    refine j_goto 10 (dk dt_X12_meanOne 3 rfl) (by decide) ?_
    exact j_el (T_X12_meanOne_10 r_x1 r_x2 r_x3 r_x4 r_x5 (by decide) m   H) (And.intro rfl (And.intro rfl (And.intro rfl (And.intro rfl (And.intro rfl (And.intro rfl trivial))))))
def L_X12_readVersion_42  (x1 : Int) (x2 : Int) (x3 : Int) (u : Mu) (P : (Int × Int) ⊕ ((Int × Int) ⊕ (Int)) → Prop) : Prop :=
  F_X12_byteAt x2 u (fun x_44 => F_X12_isDigit x_44 (fun x_47 => (if x_47 = 0 then P (.inr (.inl (x2, x3))) else (if x2 = w32 (x1 + 3) then P (.inr (.inr x2)) else F_X12_byteAt x2 u (fun x_74 => P (.inl (w32 (x2 + 1), w32 ((w32 (w32 (10 * x3) + x_74)) - 48))))))))
theorem U_X12_readVersion_42  {x1 : Int} {x2 : Int} {x3 : Int} {u : Mu} {P : (Int × Int) ⊕ ((Int × Int) ⊕ (Int)) → Prop} {h : Hp} {g : Nat → Nat} {post : Option Sv ⊕ String → Hp → Prop} (r_x1 : R32 x1) (r_x2 : R32 x2) (r_x3 : R32 x3) (m : Ms h g u)  (hl : ∀ (x2 : Int) (x3 : Int), P (.inl (x2, x3)) → R32 x2 → R32 x3 → J mX12_readVersion 3 0 0 post 42 [some (vr (some (g 0))), some (ii (x1)), some (ii (x2)), some (ii (x3))] [] h) (he0 : ∀ (x2 : Int) (x3 : Int), P (.inr (.inl (x2, x3))) → R32 x2 → R32 x3 → J mX12_readVersion 3 0 0 post 88 [some (vr (some (g 0))), none, some (ii (x2)), some (ii (x3))] [] h) (he1 : ∀ (x2 : Int), P (.inr (.inr x2)) → R32 x2 → J mX12_readVersion 3 0 0 post 60 [some (vr (some (g 0))), none, some (ii (x2)), none] [] h) (H : L_X12_readVersion_42 x1 x2 x3 u P) : J mX12_readVersion 3 0 0 post 42 [some (vr (some (g 0))), some (ii (x1)), some (ii (x2)), some (ii (x3))] [] h := by
  unfold L_X12_readVersion_42 at H
  refine j_aload_n (dk dt_X12_readVersion 27 rfl) rfl ?_
  refine j_iload_n (dk dt_X12_readVersion 28 rfl) rfl ?_
  refine jz_callV1 (dk dt_X12_readVersion 29 rfl) vl_X12_270 rfl (T_X12_byteAt r_x2 m H) m.1.1 rfl (by decide) (Nat.zero_le _) (Nat.zero_le _) (Nat.le_of_ble_eq_true rfl) (fun v_44 h_44 P_44 => ?_)
  obtain ⟨x_44, rfl, r_44, rfl, H⟩ := P_44
  dsimp only [rs]
  refine j_callS1 (dk dt_X12_readVersion 30 rfl) sl_X12_283 (T_X12_isDigit r_44 H) rfl (by decide) (Nat.zero_le _) (Nat.zero_le _) (Nat.le_of_ble_eq_true rfl) (fun v_47 h_47 P_47 => ?_)
  obtain ⟨x_47, rfl, r_47, rfl, H⟩ := P_47
  dsimp only [rs]
  refine jz_if_eq 88 (dk dt_X12_readVersion 31 rfl) (by decide) r_47 H (fun H => ?_) (fun H => ?_)
  · exact j_el (he0 _ _ H r_x2 r_x3) (And.intro rfl (And.intro rfl (And.intro rfl trivial)))
  · refine j_iload_n (dk dt_X12_readVersion 32 rfl) rfl ?_
    refine j_iload_n (dk dt_X12_readVersion 33 rfl) rfl ?_
    refine j_iconst (v := Int32.ofInt 3) (dk dt_X12_readVersion 34 rfl) (by decide) ?_
    refine jz_iadd (dk dt_X12_readVersion 35 rfl) ?_
    refine jz_icmp_ne 68 (dk dt_X12_readVersion 36 rfl) (by decide) r_x2 (r32_w _) H (fun H => ?_) (fun H => ?_)
    · exact j_el (he1 _ H r_x2) (And.intro rfl (And.intro rfl trivial))
    · refine j_bipush (v := Int32.ofInt 10) (dk dt_X12_readVersion 43 rfl) (by decide) ?_
      refine j_iload_n (dk dt_X12_readVersion 44 rfl) rfl ?_
      refine jz_imul (dk dt_X12_readVersion 45 rfl) ?_
      refine j_aload_n (dk dt_X12_readVersion 46 rfl) rfl ?_
      refine j_iload_n (dk dt_X12_readVersion 47 rfl) rfl ?_
      refine jz_callV1 (dk dt_X12_readVersion 48 rfl) vl_X12_270 rfl (T_X12_byteAt r_x2 m H) m.1.1 rfl (by decide) (Nat.zero_le _) (Nat.zero_le _) (Nat.le_of_ble_eq_true rfl) (fun v_74 h_74 P_74 => ?_)
      obtain ⟨x_74, rfl, r_74, rfl, H⟩ := P_74
      dsimp only [rs]
      refine jz_iadd (dk dt_X12_readVersion 49 rfl) ?_
      refine j_bipush (v := Int32.ofInt 48) (dk dt_X12_readVersion 50 rfl) (by decide) ?_
      refine jz_isub (dk dt_X12_readVersion 51 rfl) ?_
      refine j_istore_n (dk dt_X12_readVersion 52 rfl) (by decide) ?_
      refine jz_iinc (dk dt_X12_readVersion 53 rfl) rfl ?_
      refine j_goto 42 (dk dt_X12_readVersion 54 rfl) (by decide) ?_
      exact j_el (hl _ _ H (r32_w _) (r32_w _)) (And.intro rfl (And.intro rfl (And.intro rfl (And.intro rfl trivial))))
def F_X12_readVersion_42  (x1 : Int) (x2 : Int) (x3 : Int) (u : Mu) (P : Int → Mu → Prop) : Prop :=
  lp (S := Int × Int) (E := (Int × Int) ⊕ (Int)) (fun q P_ => L_X12_readVersion_42 x1 q.1 q.2 u P_) (x2, x3) (fun e => match e with | (.inl (x2, x3)) => (∀ u_90, u_90 = uI u 0 46 x2 → P x3 u_90) | (.inr x2) => F_X12_fail 1 x2 u (fun u_63 => P (-1) u_63))
theorem T_X12_readVersion_42  {x1 : Int} {x2 : Int} {x3 : Int} {u : Mu} {P : Int → Mu → Prop} {h : Hp} {g : Nat → Nat} (r_x1 : R32 x1) (r_x2 : R32 x2) (r_x3 : R32 x3) (m : Ms h g u)   (H : F_X12_readVersion_42 x1 x2 x3 u P) : J mX12_readVersion 3 0 0 (nx (QMI g P)) 42 [some (vr (some (g 0))), some (ii (x1)), some (ii (x2)), some (ii (x3))] [] h := by
  unfold F_X12_readVersion_42 at H
  refine lp_J (G := fun q => R32 (q.1) → R32 (q.2) → J mX12_readVersion 3 0 0 (nx (QMI g P)) 42 [some (vr (some (g 0))), some (ii (x1)), some (ii ((q.1))), some (ii ((q.2)))] [] h) (fun q P_ hl_ he_ Hb => ?_) (x2, x3) H r_x2 r_x3
  obtain ⟨x2, x3⟩ := q
  intro r_x2 r_x3
  refine U_X12_readVersion_42 (P := P_) r_x1 r_x2 r_x3 m  (fun x2 x3 Hp r_x2 r_x3 => hl_ (x2, x3) Hp r_x2 r_x3) ?_ ?_ Hb
  · intro x2 x3 Hp r_x2 r_x3
    have H := he_ _ Hp
    refine j_aload_n (dk dt_X12_readVersion 55 rfl) rfl ?_
    refine j_iload_n (dk dt_X12_readVersion 56 rfl) rfl ?_
    refine jm_putI (kz := 46) (dk dt_X12_readVersion 57 rfl) fl_X12_371 rfl rfl rfl rfl m r_x2 (fun h_90 m_90 => ?_)
    replace H := H _ rfl
    refine j_iload_n (dk dt_X12_readVersion 58 rfl) rfl ?_
    exact j_ireturn (dk dt_X12_readVersion 59 rfl) rfl rfl ⟨_, _, rfl, r_x3, m_90, H⟩
  · intro x2 Hp r_x2
    have H := he_ _ Hp
    refine j_aload_n (dk dt_X12_readVersion 37 rfl) rfl ?_
    refine j_iconst (v := Int32.ofInt 1) (dk dt_X12_readVersion 38 rfl) (by decide) ?_
    refine j_iload_n (dk dt_X12_readVersion 39 rfl) rfl ?_
    refine jz_callV2 (dk dt_X12_readVersion 40 rfl) vl_X12_296 rfl (T_X12_fail (by decide) r_x2 m H) m.1.1 rfl (by decide) (Nat.zero_le _) (Nat.zero_le _) (Nat.le_of_ble_eq_true rfl) (fun v_63 h_63 P_63 => ?_)
    obtain ⟨u_63, rfl, m_63, H⟩ := P_63
    dsimp only [rs]
    refine j_iconst (v := Int32.ofInt (-1)) (dk dt_X12_readVersion 41 rfl) (by decide) ?_
    exact j_ireturn (dk dt_X12_readVersion 42 rfl) rfl rfl ⟨_, _, rfl, (by decide), m_63, H⟩
def F_X12_readVersion  (x1 : Int) (u : Mu) (P : Int → Mu → Prop) : Prop :=
  (∀ u_2, u_2 = uI u 0 46 x1 → F_X12_byteAt x1 u_2 (fun x_7 => (if x_7 = 64 then F_X12_byteAt (w32 (x1 + 1)) u_2 (fun x_23 => F_X12_isDigit x_23 (fun x_26 => (if x_26 = 0 then F_X12_fail 1 (w32 (x1 + 1)) u_2 (fun u_35 => P (-1) u_35) else F_X12_readVersion_42 x1 (w32 (x1 + 1)) 0 u_2 P))) else P (-1) u_2)))
theorem T_X12_readVersion  {x1 : Int} {u : Mu} {P : Int → Mu → Prop} {h : Hp} {g : Nat → Nat} (r_x1 : R32 x1) (m : Ms h g u)  (H : F_X12_readVersion x1 u P) : Con mX12_readVersion 3 0 0 [vr (some (g 0)), ii (x1)] h (QMI g P) := by
  refine con_of rfl (Nat.le_of_ble_eq_true rfl) (by decide) ?_
  show J mX12_readVersion 3 0 0 _ 0 [some (vr (some (g 0))), some (ii (x1)), none, none] [] h
  unfold F_X12_readVersion at H
  refine j_aload_n (dk dt_X12_readVersion 0 rfl) rfl ?_
  refine j_iload_n (dk dt_X12_readVersion 1 rfl) rfl ?_
  refine jm_putI (kz := 46) (dk dt_X12_readVersion 2 rfl) fl_X12_371 rfl rfl rfl rfl m r_x1 (fun h_2 m_2 => ?_)
  replace H := H _ rfl
  refine j_aload_n (dk dt_X12_readVersion 3 rfl) rfl ?_
  refine j_iload_n (dk dt_X12_readVersion 4 rfl) rfl ?_
  refine jz_callV1 (dk dt_X12_readVersion 5 rfl) vl_X12_270 rfl (T_X12_byteAt r_x1 m_2 H) m_2.1.1 rfl (by decide) (Nat.zero_le _) (Nat.zero_le _) (Nat.le_of_ble_eq_true rfl) (fun v_7 h_7 P_7 => ?_)
  obtain ⟨x_7, rfl, r_7, rfl, H⟩ := P_7
  dsimp only [rs]
  refine j_bipush (v := Int32.ofInt 64) (dk dt_X12_readVersion 6 rfl) (by decide) ?_
  refine jz_icmp_eq 17 (dk dt_X12_readVersion 7 rfl) (by decide) r_7 (by decide) H (fun H => ?_) (fun H => ?_)
  · refine j_iload_n (dk dt_X12_readVersion 10 rfl) rfl ?_
    refine j_iconst (v := Int32.ofInt 1) (dk dt_X12_readVersion 11 rfl) (by decide) ?_
    refine jz_iadd (dk dt_X12_readVersion 12 rfl) ?_
    refine j_istore_n (dk dt_X12_readVersion 13 rfl) (by decide) ?_
    refine j_aload_n (dk dt_X12_readVersion 14 rfl) rfl ?_
    refine j_iload_n (dk dt_X12_readVersion 15 rfl) rfl ?_
    refine jz_callV1 (dk dt_X12_readVersion 16 rfl) vl_X12_270 rfl (T_X12_byteAt (r32_w _) m_2 H) m_2.1.1 rfl (by decide) (Nat.zero_le _) (Nat.zero_le _) (Nat.le_of_ble_eq_true rfl) (fun v_23 h_23 P_23 => ?_)
    obtain ⟨x_23, rfl, r_23, rfl, H⟩ := P_23
    dsimp only [rs]
    refine j_callS1 (dk dt_X12_readVersion 17 rfl) sl_X12_283 (T_X12_isDigit r_23 H) rfl (by decide) (Nat.zero_le _) (Nat.zero_le _) (Nat.le_of_ble_eq_true rfl) (fun v_26 h_26 P_26 => ?_)
    obtain ⟨x_26, rfl, r_26, rfl, H⟩ := P_26
    dsimp only [rs]
    refine jz_if_ne 40 (dk dt_X12_readVersion 18 rfl) (by decide) r_26 H (fun H => ?_) (fun H => ?_)
    · refine j_aload_n (dk dt_X12_readVersion 19 rfl) rfl ?_
      refine j_iconst (v := Int32.ofInt 1) (dk dt_X12_readVersion 20 rfl) (by decide) ?_
      refine j_iload_n (dk dt_X12_readVersion 21 rfl) rfl ?_
      refine jz_callV2 (dk dt_X12_readVersion 22 rfl) vl_X12_296 rfl (T_X12_fail (by decide) (r32_w _) m_2 H) m_2.1.1 rfl (by decide) (Nat.zero_le _) (Nat.zero_le _) (Nat.le_of_ble_eq_true rfl) (fun v_35 h_35 P_35 => ?_)
      obtain ⟨u_35, rfl, m_35, H⟩ := P_35
      dsimp only [rs]
      refine j_iconst (v := Int32.ofInt (-1)) (dk dt_X12_readVersion 23 rfl) (by decide) ?_
      exact j_ireturn (dk dt_X12_readVersion 24 rfl) rfl rfl ⟨_, _, rfl, (by decide), m_35, H⟩
    · refine j_iconst (v := Int32.ofInt 0) (dk dt_X12_readVersion 25 rfl) (by decide) ?_
      refine j_istore_n (dk dt_X12_readVersion 26 rfl) (by decide) ?_
      exact j_el (T_X12_readVersion_42 r_x1 (r32_w _) (by decide) m_2   H) (And.intro rfl (And.intro rfl (And.intro rfl (And.intro rfl trivial))))
  · refine j_iconst (v := Int32.ofInt (-1)) (dk dt_X12_readVersion 8 rfl) (by decide) ?_
    exact j_ireturn (dk dt_X12_readVersion 9 rfl) rfl rfl ⟨_, _, rfl, (by decide), m_2, H⟩
def F_X12_readSpot_79  (u : Mu) (P : Mu → Prop) : Prop :=
  F_X12_next u (fun u_80 => P u_80)
theorem T_X12_readSpot_79  {u : Mu} {P : Mu → Prop} {h : Hp} {g : Nat → Nat}  (m : Ms h g u)   (H : F_X12_readSpot_79 u P) : J mX12_readSpot 9 0 0 (nx (QMV g P)) 79 [some (vr (some (g 0))), none, none, none, none, none, none] [] h := by
  unfold F_X12_readSpot_79 at H
  refine j_aload_n (dk dt_X12_readSpot 44 rfl) rfl ?_
  refine jz_callV0 (dk dt_X12_readSpot 45 rfl) vl_X12_413 rfl (T_X12_next m H) m.1.1 rfl (by decide) (Nat.zero_le _) (Nat.zero_le _) (Nat.le_of_ble_eq_true rfl) (fun v_80 h_80 P_80 => ?_)
  obtain ⟨u_80, rfl, m_80, H⟩ := P_80
  dsimp only [rs]
  exact j_return (dk dt_X12_readSpot 46 rfl) rfl ⟨_, rfl, m_80, H⟩
def F_X12_readSpot  (u : Mu) (P : Mu → Prop) : Prop :=
  F_X12_readVersion (mI u 0 49) u (fun x_26 u_26 => (if mI u_26 0 41 ≤ 0 then F_X12_part 5 0 u_26 (fun x_42 u_42 => F_X12_isThere x_26 (mI u 0 52) (mI u 0 53) u_42 (fun x_52 => (if x_52 = 0 then F_X12_later 3 (mI u 0 48) u_42 (fun u_76 => F_X12_readSpot_79 u_76 P) else F_X12_meanOne x_42 x_26 (mI u 0 52) (mI u 0 53) (mI u 0 54) u_42 (fun u_67 => F_X12_readSpot_79 u_67 P)))) else P u_26))
theorem T_X12_readSpot  {u : Mu} {P : Mu → Prop} {h : Hp} {g : Nat → Nat}  (m : Ms h g u)  (H : F_X12_readSpot u P) : Con mX12_readSpot 9 0 0 [vr (some (g 0))] h (QMV g P) := by
  refine con_of rfl (Nat.le_of_ble_eq_true rfl) (by decide) ?_
  show J mX12_readSpot 9 0 0 _ 0 [some (vr (some (g 0))), none, none, none, none, none, none] [] h
  unfold F_X12_readSpot at H
  refine j_aload_n (dk dt_X12_readSpot 0 rfl) rfl ?_
  refine jm_getI (kz := 48) (dk dt_X12_readSpot 1 rfl) fl_X12_386 rfl rfl m ?_
  refine j_istore_n (dk dt_X12_readSpot 2 rfl) (by decide) ?_
  refine j_aload_n (dk dt_X12_readSpot 3 rfl) rfl ?_
  refine jm_getI (kz := 52) (dk dt_X12_readSpot 4 rfl) fl_X12_350 rfl rfl m ?_
  refine j_istore_n (dk dt_X12_readSpot 5 rfl) (by decide) ?_
  refine j_aload_n (dk dt_X12_readSpot 6 rfl) rfl ?_
  refine jm_getI (kz := 53) (dk dt_X12_readSpot 7 rfl) fl_X12_353 rfl rfl m ?_
  refine j_istore_n (dk dt_X12_readSpot 8 rfl) (by decide) ?_
  refine j_aload_n (dk dt_X12_readSpot 9 rfl) rfl ?_
  refine jm_getI (kz := 54) (dk dt_X12_readSpot 10 rfl) fl_X12_356 rfl rfl m ?_
  refine j_istore (dk dt_X12_readSpot 11 rfl) (by decide) ?_
  refine j_aload_n (dk dt_X12_readSpot 12 rfl) rfl ?_
  refine j_aload_n (dk dt_X12_readSpot 13 rfl) rfl ?_
  refine jm_getI (kz := 49) (dk dt_X12_readSpot 14 rfl) fl_X12_365 rfl rfl m ?_
  refine jz_callV1 (dk dt_X12_readSpot 15 rfl) vl_X12_517 rfl (T_X12_readVersion (m.2.1.1 _ _) m H) m.1.1 rfl (by decide) (Nat.zero_le _) (Nat.zero_le _) (Nat.le_of_ble_eq_true rfl) (fun v_26 h_26 P_26 => ?_)
  obtain ⟨x_26, u_26, rfl, r_26, m_26, H⟩ := P_26
  dsimp only [rs]
  refine j_istore (dk dt_X12_readSpot 16 rfl) (by decide) ?_
  refine j_aload_n (dk dt_X12_readSpot 17 rfl) rfl ?_
  refine jm_getI (kz := 41) (dk dt_X12_readSpot 18 rfl) fl_X12_277 rfl rfl m_26 ?_
  refine jz_if_le 39 (dk dt_X12_readSpot 19 rfl) (by decide) (m_26.2.1.1 _ _) H (fun H => ?_) (fun H => ?_)
  · refine j_aload_n (dk dt_X12_readSpot 21 rfl) rfl ?_
    refine j_iconst (v := Int32.ofInt 5) (dk dt_X12_readSpot 22 rfl) (by decide) ?_
    refine j_iconst (v := Int32.ofInt 0) (dk dt_X12_readSpot 23 rfl) (by decide) ?_
    refine jz_callV2 (dk dt_X12_readSpot 24 rfl) vl_X12_425 rfl (T_X12_part (by decide) (by decide) m_26 H) m_26.1.1 rfl (by decide) (Nat.zero_le _) (Nat.zero_le _) (Nat.le_of_ble_eq_true rfl) (fun v_42 h_42 P_42 => ?_)
    obtain ⟨x_42, u_42, rfl, r_42, m_42, H⟩ := P_42
    dsimp only [rs]
    refine j_istore (dk dt_X12_readSpot 25 rfl) (by decide) ?_
    refine j_aload_n (dk dt_X12_readSpot 26 rfl) rfl ?_
    refine j_iload (dk dt_X12_readSpot 27 rfl) rfl ?_
    refine j_iload_n (dk dt_X12_readSpot 28 rfl) rfl ?_
    refine j_iload_n (dk dt_X12_readSpot 29 rfl) rfl ?_
    refine jz_callV3 (dk dt_X12_readSpot 30 rfl) vl_X12_520 rfl (T_X12_isThere r_26 (m.2.1.1 _ _) (m.2.1.1 _ _) m_42 H) m_42.1.1 rfl (by decide) (Nat.zero_le _) (Nat.zero_le _) (Nat.le_of_ble_eq_true rfl) (fun v_52 h_52 P_52 => ?_)
    obtain ⟨x_52, rfl, r_52, rfl, H⟩ := P_52
    dsimp only [rs]
    refine jz_if_eq 73 (dk dt_X12_readSpot 31 rfl) (by decide) r_52 H (fun H => ?_) (fun H => ?_)
    · refine j_aload_n (dk dt_X12_readSpot 40 rfl) rfl ?_
      refine j_iconst (v := Int32.ofInt 3) (dk dt_X12_readSpot 41 rfl) (by decide) ?_
      refine j_iload_n (dk dt_X12_readSpot 42 rfl) rfl ?_
      refine jz_callV2 (dk dt_X12_readSpot 43 rfl) vl_X12_511 rfl (T_X12_later (by decide) (m.2.1.1 _ _) m_42 H) m_42.1.1 rfl (by decide) (Nat.zero_le _) (Nat.zero_le _) (Nat.le_of_ble_eq_true rfl) (fun v_76 h_76 P_76 => ?_)
      obtain ⟨u_76, rfl, m_76, H⟩ := P_76
      dsimp only [rs]
      exact j_el (T_X12_readSpot_79  m_76   H) (And.intro rfl trivial)
    · refine j_aload_n (dk dt_X12_readSpot 32 rfl) rfl ?_
      refine j_iload (dk dt_X12_readSpot 33 rfl) rfl ?_
      refine j_iload (dk dt_X12_readSpot 34 rfl) rfl ?_
      refine j_iload_n (dk dt_X12_readSpot 35 rfl) rfl ?_
      refine j_iload_n (dk dt_X12_readSpot 36 rfl) rfl ?_
      refine j_iload (dk dt_X12_readSpot 37 rfl) rfl ?_
      refine jz_callV5 (dk dt_X12_readSpot 38 rfl) vl_X12_523 rfl (T_X12_meanOne r_42 r_26 (m.2.1.1 _ _) (m.2.1.1 _ _) (m.2.1.1 _ _) m_42 H) m_42.1.1 rfl (by decide) (Nat.zero_le _) (Nat.zero_le _) (Nat.le_of_ble_eq_true rfl) (fun v_67 h_67 P_67 => ?_)
      obtain ⟨u_67, rfl, m_67, H⟩ := P_67
      dsimp only [rs]
      refine j_goto 79 (dk dt_X12_readSpot 39 rfl) (by decide) ?_
      exact j_el (T_X12_readSpot_79  m_67   H) (And.intro rfl trivial)
  · exact j_return (dk dt_X12_readSpot 20 rfl) rfl ⟨_, rfl, m_26, H⟩
def F_X12_isMany  (x0 : Int) (P : Int → Prop) : Prop :=
  F_X12_in x0 31 36 (fun x_5 => (Z1 x_5 ∧ P x_5))
theorem T_X12_isMany  {x0 : Int} {P : Int → Prop} {h : Hp} (r_x0 : R32 x0)   (H : F_X12_isMany x0 P) : Con mX12_isMany 2 0 0 [ii (x0)] h (QPI h P) := by
  refine con_of rfl (Nat.le_of_ble_eq_true rfl) (by decide) ?_
  show J mX12_isMany 2 0 0 _ 0 [some (ii (x0))] [] h
  unfold F_X12_isMany at H
  refine j_iload_n (dk dt_X12_isMany 0 rfl) rfl ?_
  refine j_bipush (v := Int32.ofInt 31) (dk dt_X12_isMany 1 rfl) (by decide) ?_
  refine j_bipush (v := Int32.ofInt 36) (dk dt_X12_isMany 2 rfl) (by decide) ?_
  refine j_callS3 (dk dt_X12_isMany 3 rfl) sl_X12_220 (T_X12_in r_x0 (by decide) (by decide) H) rfl (by decide) (Nat.zero_le _) (Nat.zero_le _) (Nat.le_of_ble_eq_true rfl) (fun v_5 h_5 P_5 => ?_)
  obtain ⟨x_5, rfl, r_5, rfl, H⟩ := P_5
  dsimp only [rs]
  obtain ⟨hz_, H⟩ := H
  exact j_ireturn (dk dt_X12_isMany 4 rfl) rfl (nar_z hz_) ⟨_, rfl, r_5, rfl, H⟩
def F_X12_isArg_67  (s0 : Int) (u : Mu) (P : Int → Mu → Prop) : Prop :=
  (Z1 s0 ∧ P s0 u)
theorem T_X12_isArg_67  {s0 : Int} {u : Mu} {P : Int → Mu → Prop} {h : Hp} {g : Nat → Nat} (r_s0 : R32 s0) (m : Ms h g u)   (H : F_X12_isArg_67 s0 u P) : J mX12_isArg 3 0 0 (nx (QMI g P)) 67 [none, none, none, none, none, none] [ii (s0)] h := by
  unfold F_X12_isArg_67 at H
  obtain ⟨hz_, H⟩ := H
  exact j_ireturn (dk dt_X12_isArg 38 rfl) rfl (nar_z hz_) ⟨_, _, rfl, r_s0, m, H⟩
def F_X12_isArg_62  (u : Mu) (P : Int → Mu → Prop) : Prop :=
  F_X12_isArg_67 1 u P
theorem T_X12_isArg_62  {u : Mu} {P : Int → Mu → Prop} {h : Hp} {g : Nat → Nat}  (m : Ms h g u)   (H : F_X12_isArg_62 u P) : J mX12_isArg 3 0 0 (nx (QMI g P)) 62 [none, none, none, none, none, none] [] h := by
  unfold F_X12_isArg_62 at H
  refine j_iconst (v := Int32.ofInt 1) (dk dt_X12_isArg 35 rfl) (by decide) ?_
  refine j_goto 67 (dk dt_X12_isArg 36 rfl) (by decide) ?_
  exact j_el (T_X12_isArg_67 (by decide) m   H) trivial
def F_X12_isArg_50  (x4 : Int) (u : Mu) (P : Int → Mu → Prop) : Prop :=
  (if x4 = 5 then F_X12_isArg_62 u P else (if x4 = 4 then F_X12_isArg_62 u P else F_X12_isArg_67 0 u P))
theorem T_X12_isArg_50  {x4 : Int} {u : Mu} {P : Int → Mu → Prop} {h : Hp} {g : Nat → Nat} (r_x4 : R32 x4) (m : Ms h g u)   (H : F_X12_isArg_50 x4 u P) : J mX12_isArg 3 0 0 (nx (QMI g P)) 50 [none, none, none, none, some (ii (x4)), none] [] h := by
  unfold F_X12_isArg_50 at H
  refine j_iload (dk dt_X12_isArg 29 rfl) rfl ?_
  refine j_iconst (v := Int32.ofInt 5) (dk dt_X12_isArg 30 rfl) (by decide) ?_
  refine jz_icmp_eq 62 (dk dt_X12_isArg 31 rfl) (by decide) r_x4 (by decide) H (fun H => ?_) (fun H => ?_)
  · exact j_el (T_X12_isArg_62  m   H) trivial
  · refine j_iload (dk dt_X12_isArg 32 rfl) rfl ?_
    refine j_iconst (v := Int32.ofInt 4) (dk dt_X12_isArg 33 rfl) (by decide) ?_
    refine jz_icmp_ne 66 (dk dt_X12_isArg 34 rfl) (by decide) r_x4 (by decide) H (fun H => ?_) (fun H => ?_)
    · exact j_el (T_X12_isArg_62  m   H) trivial
    · refine j_iconst (v := Int32.ofInt 0) (dk dt_X12_isArg 37 rfl) (by decide) ?_
      exact j_el (T_X12_isArg_67 (by decide) m   H) trivial
def F_X12_isArg_29  (x3 : Int) (x4 : Int) (u : Mu) (P : Int → Mu → Prop) : Prop :=
  (if x4 = 5 then (0 ≤ x3 ∧ x3 < 60420 ∧ (∀ u_49, u_49 = uI u 36 x3 (bOr (mI u 36 x3) 16) → F_X12_isArg_50 x4 u_49 P)) else F_X12_isArg_50 x4 u P)
theorem T_X12_isArg_29  {x3 : Int} {x4 : Int} {u : Mu} {P : Int → Mu → Prop} {h : Hp} {g : Nat → Nat} (r_x3 : R32 x3) (r_x4 : R32 x4) (m : Ms h g u)   (H : F_X12_isArg_29 x3 x4 u P) : J mX12_isArg 3 0 0 (nx (QMI g P)) 29 [some (vr (some (g 0))), none, none, some (ii (x3)), some (ii (x4)), none] [] h := by
  unfold F_X12_isArg_29 at H
  refine j_iload (dk dt_X12_isArg 16 rfl) rfl ?_
  refine j_iconst (v := Int32.ofInt 5) (dk dt_X12_isArg 17 rfl) (by decide) ?_
  refine jz_icmp_ne 50 (dk dt_X12_isArg 18 rfl) (by decide) r_x4 (by decide) H (fun H => ?_) (fun H => ?_)
  · refine j_aload_n (dk dt_X12_isArg 19 rfl) rfl ?_
    refine jm_getA (dk dt_X12_isArg 20 rfl) fl_X12_97 rfl (c := 14) rfl m ?_
    refine j_iload_n (dk dt_X12_isArg 21 rfl) rfl ?_
    refine j_aload_n (dk dt_X12_isArg 22 rfl) rfl ?_
    refine jm_getA (dk dt_X12_isArg 23 rfl) fl_X12_97 rfl (c := 14) rfl m ?_
    refine j_iload_n (dk dt_X12_isArg 24 rfl) rfl ?_
    obtain ⟨p_45, q_45, H⟩ := H
    refine jm_iald (dk dt_X12_isArg 25 rfl) rfl rfl m p_45 q_45 ?_
    refine j_bipush (v := Int32.ofInt 16) (dk dt_X12_isArg 26 rfl) (by decide) ?_
    refine jz_ior (dk dt_X12_isArg 27 rfl) ?_
    refine jm_iast (dk dt_X12_isArg 28 rfl) rfl rfl m p_45 q_45 (r32_t _) (fun h_49 m_49 => ?_)
    replace H := H _ rfl
    exact j_el (T_X12_isArg_50 r_x4 m_49   H) (And.intro rfl trivial)
  · exact j_el (T_X12_isArg_50 r_x4 m   H) (And.intro rfl trivial)
def F_X12_isArg_140  (s0 : Int) (u : Mu) (P : Int → Mu → Prop) : Prop :=
  (Z1 s0 ∧ P s0 u)
theorem T_X12_isArg_140  {s0 : Int} {u : Mu} {P : Int → Mu → Prop} {h : Hp} {g : Nat → Nat} (r_s0 : R32 s0) (m : Ms h g u)   (H : F_X12_isArg_140 s0 u P) : J mX12_isArg 3 0 0 (nx (QMI g P)) 140 [none, none, none, none, none, none] [ii (s0)] h := by
  unfold F_X12_isArg_140 at H
  obtain ⟨hz_, H⟩ := H
  exact j_ireturn (dk dt_X12_isArg 75 rfl) rfl (nar_z hz_) ⟨_, _, rfl, r_s0, m, H⟩
def F_X12_isArg_120  (u : Mu) (P : Int → Mu → Prop) : Prop :=
  F_X12_isArg_140 1 u P
theorem T_X12_isArg_120  {u : Mu} {P : Int → Mu → Prop} {h : Hp} {g : Nat → Nat}  (m : Ms h g u)   (H : F_X12_isArg_120 u P) : J mX12_isArg 3 0 0 (nx (QMI g P)) 120 [none, none, none, none, none, none] [] h := by
  unfold F_X12_isArg_120 at H
  refine j_iconst (v := Int32.ofInt 1) (dk dt_X12_isArg 65 rfl) (by decide) ?_
  refine j_goto 140 (dk dt_X12_isArg 66 rfl) (by decide) ?_
  exact j_el (T_X12_isArg_140 (by decide) m   H) trivial
def F_X12_isArg_100  (x4 : Int) (s0 : Int) (u : Mu) (P : Int → Mu → Prop) : Prop :=
  (if s0 = 0 then (if x4 = 6 then F_X12_isArg_140 0 u P else F_X12_isArg_140 1 u P) else (if x4 = 6 then F_X12_isArg_120 u P else (if x4 = 4 then F_X12_isArg_120 u P else F_X12_isArg_140 0 u P)))
theorem T_X12_isArg_100  {x4 : Int} {s0 : Int} {u : Mu} {P : Int → Mu → Prop} {h : Hp} {g : Nat → Nat} (r_x4 : R32 x4) (r_s0 : R32 s0) (m : Ms h g u)   (H : F_X12_isArg_100 x4 s0 u P) : J mX12_isArg 3 0 0 (nx (QMI g P)) 100 [none, none, none, none, some (ii (x4)), none] [ii (s0)] h := by
  unfold F_X12_isArg_100 at H
  refine j_istore (dk dt_X12_isArg 56 rfl) (by decide) ?_
  refine j_iload (dk dt_X12_isArg 57 rfl) rfl ?_
  refine jz_if_eq 128 (dk dt_X12_isArg 58 rfl) (by decide) r_s0 H (fun H => ?_) (fun H => ?_)
  · refine j_iload (dk dt_X12_isArg 69 rfl) rfl ?_
    refine j_bipush (v := Int32.ofInt 6) (dk dt_X12_isArg 70 rfl) (by decide) ?_
    refine jz_icmp_eq 139 (dk dt_X12_isArg 71 rfl) (by decide) r_x4 (by decide) H (fun H => ?_) (fun H => ?_)
    · refine j_iconst (v := Int32.ofInt 0) (dk dt_X12_isArg 74 rfl) (by decide) ?_
      exact j_el (T_X12_isArg_140 (by decide) m   H) trivial
    · refine j_iconst (v := Int32.ofInt 1) (dk dt_X12_isArg 72 rfl) (by decide) ?_
      refine j_goto 140 (dk dt_X12_isArg 73 rfl) (by decide) ?_
      exact j_el (T_X12_isArg_140 (by decide) m   H) trivial
  · refine j_iload (dk dt_X12_isArg 59 rfl) rfl ?_
    refine j_bipush (v := Int32.ofInt 6) (dk dt_X12_isArg 60 rfl) (by decide) ?_
    refine jz_icmp_eq 120 (dk dt_X12_isArg 61 rfl) (by decide) r_x4 (by decide) H (fun H => ?_) (fun H => ?_)
    · exact j_el (T_X12_isArg_120  m   H) trivial
    · refine j_iload (dk dt_X12_isArg 62 rfl) rfl ?_
      refine j_iconst (v := Int32.ofInt 4) (dk dt_X12_isArg 63 rfl) (by decide) ?_
      refine jz_icmp_ne 124 (dk dt_X12_isArg 64 rfl) (by decide) r_x4 (by decide) H (fun H => ?_) (fun H => ?_)
      · exact j_el (T_X12_isArg_120  m   H) trivial
      · refine j_iconst (v := Int32.ofInt 0) (dk dt_X12_isArg 67 rfl) (by decide) ?_
        refine j_goto 140 (dk dt_X12_isArg 68 rfl) (by decide) ?_
        exact j_el (T_X12_isArg_140 (by decide) m   H) trivial
def F_X12_isArg_95  (x4 : Int) (u : Mu) (P : Int → Mu → Prop) : Prop :=
  F_X12_isArg_100 x4 1 u P
theorem T_X12_isArg_95  {x4 : Int} {u : Mu} {P : Int → Mu → Prop} {h : Hp} {g : Nat → Nat} (r_x4 : R32 x4) (m : Ms h g u)   (H : F_X12_isArg_95 x4 u P) : J mX12_isArg 3 0 0 (nx (QMI g P)) 95 [none, none, none, none, some (ii (x4)), none] [] h := by
  unfold F_X12_isArg_95 at H
  refine j_iconst (v := Int32.ofInt 1) (dk dt_X12_isArg 53 rfl) (by decide) ?_
  refine j_goto 100 (dk dt_X12_isArg 54 rfl) (by decide) ?_
  exact j_el (T_X12_isArg_100 r_x4 (by decide) m   H) (And.intro rfl trivial)
def F_X12_isArg_99  (x4 : Int) (u : Mu) (P : Int → Mu → Prop) : Prop :=
  F_X12_isArg_100 x4 0 u P
theorem T_X12_isArg_99  {x4 : Int} {u : Mu} {P : Int → Mu → Prop} {h : Hp} {g : Nat → Nat} (r_x4 : R32 x4) (m : Ms h g u)   (H : F_X12_isArg_99 x4 u P) : J mX12_isArg 3 0 0 (nx (QMI g P)) 99 [none, none, none, none, some (ii (x4)), none] [] h := by
  unfold F_X12_isArg_99 at H
  refine j_iconst (v := Int32.ofInt 0) (dk dt_X12_isArg 55 rfl) (by decide) ?_
  exact j_el (T_X12_isArg_100 r_x4 (by decide) m   H) (And.intro rfl trivial)
def F_X12_isArg_84  (x1 : Int) (x2 : Int) (x4 : Int) (u : Mu) (P : Int → Mu → Prop) : Prop :=
  (if x1 = 46 then (if x2 = 1 then F_X12_isArg_95 x4 u P else F_X12_isArg_99 x4 u P) else F_X12_isArg_99 x4 u P)
theorem T_X12_isArg_84  {x1 : Int} {x2 : Int} {x4 : Int} {u : Mu} {P : Int → Mu → Prop} {h : Hp} {g : Nat → Nat} (r_x1 : R32 x1) (r_x2 : R32 x2) (r_x4 : R32 x4) (m : Ms h g u)   (H : F_X12_isArg_84 x1 x2 x4 u P) : J mX12_isArg 3 0 0 (nx (QMI g P)) 84 [none, some (ii (x1)), some (ii (x2)), none, some (ii (x4)), none] [] h := by
  unfold F_X12_isArg_84 at H
  refine j_iload_n (dk dt_X12_isArg 47 rfl) rfl ?_
  refine j_bipush (v := Int32.ofInt 46) (dk dt_X12_isArg 48 rfl) (by decide) ?_
  refine jz_icmp_ne 99 (dk dt_X12_isArg 49 rfl) (by decide) r_x1 (by decide) H (fun H => ?_) (fun H => ?_)
  · refine j_iload_n (dk dt_X12_isArg 50 rfl) rfl ?_
    refine j_iconst (v := Int32.ofInt 1) (dk dt_X12_isArg 51 rfl) (by decide) ?_
    refine jz_icmp_ne 99 (dk dt_X12_isArg 52 rfl) (by decide) r_x2 (by decide) H (fun H => ?_) (fun H => ?_)
    · exact j_el (T_X12_isArg_95 r_x4 m   H) (And.intro rfl trivial)
    · exact j_el (T_X12_isArg_99 r_x4 m   H) (And.intro rfl trivial)
  · exact j_el (T_X12_isArg_99 r_x4 m   H) (And.intro rfl trivial)
def F_X12_isArg_80  (x1 : Int) (x2 : Int) (x4 : Int) (u : Mu) (P : Int → Mu → Prop) : Prop :=
  (if x2 = 0 then F_X12_isArg_95 x4 u P else F_X12_isArg_84 x1 x2 x4 u P)
theorem T_X12_isArg_80  {x1 : Int} {x2 : Int} {x4 : Int} {u : Mu} {P : Int → Mu → Prop} {h : Hp} {g : Nat → Nat} (r_x1 : R32 x1) (r_x2 : R32 x2) (r_x4 : R32 x4) (m : Ms h g u)   (H : F_X12_isArg_80 x1 x2 x4 u P) : J mX12_isArg 3 0 0 (nx (QMI g P)) 80 [none, some (ii (x1)), some (ii (x2)), none, some (ii (x4)), none] [] h := by
  unfold F_X12_isArg_80 at H
  refine j_iload_n (dk dt_X12_isArg 45 rfl) rfl ?_
  refine jz_if_eq 95 (dk dt_X12_isArg 46 rfl) (by decide) r_x2 H (fun H => ?_) (fun H => ?_)
  · exact j_el (T_X12_isArg_95 r_x4 m   H) (And.intro rfl trivial)
  · exact j_el (T_X12_isArg_84 r_x1 r_x2 r_x4 m   H) (And.intro rfl (And.intro rfl (And.intro rfl trivial)))
def F_X12_isArg  (x1 : Int) (x2 : Int) (x3 : Int) (u : Mu) (P : Int → Mu → Prop) : Prop :=
  (0 ≤ x3 ∧ x3 < 60420 ∧ F_X12_isMany x1 (fun x_9 => (if x_9 = 0 then (if x1 = 41 then F_X12_isArg_29 x3 (mI u 26 x3) u P else (if x1 = 42 then F_X12_isArg_29 x3 (mI u 26 x3) u P else (if x1 = 45 then F_X12_isArg_80 x1 x2 (mI u 26 x3) u P else (if x1 = 47 then F_X12_isArg_80 x1 x2 (mI u 26 x3) u P else F_X12_isArg_84 x1 x2 (mI u 26 x3) u P)))) else P 1 u)))
theorem T_X12_isArg  {x1 : Int} {x2 : Int} {x3 : Int} {u : Mu} {P : Int → Mu → Prop} {h : Hp} {g : Nat → Nat} (r_x1 : R32 x1) (r_x2 : R32 x2) (r_x3 : R32 x3) (m : Ms h g u)  (H : F_X12_isArg x1 x2 x3 u P) : Con mX12_isArg 3 0 0 [vr (some (g 0)), ii (x1), ii (x2), ii (x3)] h (QMI g P) := by
  refine con_of rfl (Nat.le_of_ble_eq_true rfl) (by decide) ?_
  show J mX12_isArg 3 0 0 _ 0 [some (vr (some (g 0))), some (ii (x1)), some (ii (x2)), some (ii (x3)), none, none] [] h
  unfold F_X12_isArg at H
  refine j_aload_n (dk dt_X12_isArg 0 rfl) rfl ?_
  refine jm_getA (dk dt_X12_isArg 1 rfl) fl_X12_67 rfl (c := 14) rfl m ?_
  refine j_iload_n (dk dt_X12_isArg 2 rfl) rfl ?_
  obtain ⟨p_5, q_5, H⟩ := H
  refine jm_iald (dk dt_X12_isArg 3 rfl) rfl rfl m p_5 q_5 ?_
  refine j_istore (dk dt_X12_isArg 4 rfl) (by decide) ?_
  refine j_iload_n (dk dt_X12_isArg 5 rfl) rfl ?_
  refine j_callS1 (dk dt_X12_isArg 6 rfl) sl_X12_514 (T_X12_isMany r_x1 H) rfl (by decide) (Nat.zero_le _) (Nat.zero_le _) (Nat.le_of_ble_eq_true rfl) (fun v_9 h_9 P_9 => ?_)
  obtain ⟨x_9, rfl, r_9, rfl, H⟩ := P_9
  dsimp only [rs]
  refine jz_if_eq 17 (dk dt_X12_isArg 7 rfl) (by decide) r_9 H (fun H => ?_) (fun H => ?_)
  · refine j_iload_n (dk dt_X12_isArg 10 rfl) rfl ?_
    refine j_bipush (v := Int32.ofInt 41) (dk dt_X12_isArg 11 rfl) (by decide) ?_
    refine jz_icmp_eq 29 (dk dt_X12_isArg 12 rfl) (by decide) r_x1 (by decide) H (fun H => ?_) (fun H => ?_)
    · exact j_el (T_X12_isArg_29 r_x3 (m.2.1.1 _ _) m   H) (And.intro rfl (And.intro rfl (And.intro rfl trivial)))
    · refine j_iload_n (dk dt_X12_isArg 13 rfl) rfl ?_
      refine j_bipush (v := Int32.ofInt 42) (dk dt_X12_isArg 14 rfl) (by decide) ?_
      refine jz_icmp_ne 68 (dk dt_X12_isArg 15 rfl) (by decide) r_x1 (by decide) H (fun H => ?_) (fun H => ?_)
      · exact j_el (T_X12_isArg_29 r_x3 (m.2.1.1 _ _) m   H) (And.intro rfl (And.intro rfl (And.intro rfl trivial)))
      · refine j_iload_n (dk dt_X12_isArg 39 rfl) rfl ?_
        refine j_bipush (v := Int32.ofInt 45) (dk dt_X12_isArg 40 rfl) (by decide) ?_
        refine jz_icmp_eq 80 (dk dt_X12_isArg 41 rfl) (by decide) r_x1 (by decide) H (fun H => ?_) (fun H => ?_)
        · exact j_el (T_X12_isArg_80 r_x1 r_x2 (m.2.1.1 _ _) m   H) (And.intro rfl (And.intro rfl (And.intro rfl trivial)))
        · refine j_iload_n (dk dt_X12_isArg 42 rfl) rfl ?_
          refine j_bipush (v := Int32.ofInt 47) (dk dt_X12_isArg 43 rfl) (by decide) ?_
          refine jz_icmp_ne 84 (dk dt_X12_isArg 44 rfl) (by decide) r_x1 (by decide) H (fun H => ?_) (fun H => ?_)
          · exact j_el (T_X12_isArg_80 r_x1 r_x2 (m.2.1.1 _ _) m   H) (And.intro rfl (And.intro rfl (And.intro rfl trivial)))
          · exact j_el (T_X12_isArg_84 r_x1 r_x2 (m.2.1.1 _ _) m   H) (And.intro rfl (And.intro rfl (And.intro rfl trivial)))
  · refine j_iconst (v := Int32.ofInt 1) (dk dt_X12_isArg 8 rfl) (by decide) ?_
    exact j_ireturn (dk dt_X12_isArg 9 rfl) rfl (nar_z (by decide)) ⟨_, _, rfl, (by decide), m, H⟩
def F_X12_leastArgs_33  (s0 : Int) (P : Int → Prop) : Prop :=
  P s0
theorem T_X12_leastArgs_33  {s0 : Int} {P : Int → Prop} {h : Hp} (r_s0 : R32 s0)    (H : F_X12_leastArgs_33 s0 P) : J mX12_leastArgs 3 0 0 (nx (QPI h P)) 33 [none] [ii (s0)] h := by
  unfold F_X12_leastArgs_33 at H
  exact j_ireturn (dk dt_X12_leastArgs 16 rfl) rfl rfl ⟨_, rfl, r_s0, rfl, H⟩
def F_X12_leastArgs_28  (P : Int → Prop) : Prop :=
  F_X12_leastArgs_33 1 P
theorem T_X12_leastArgs_28  {P : Int → Prop} {h : Hp}     (H : F_X12_leastArgs_28 P) : J mX12_leastArgs 3 0 0 (nx (QPI h P)) 28 [none] [] h := by
  unfold F_X12_leastArgs_28 at H
  refine j_iconst (v := Int32.ofInt 1) (dk dt_X12_leastArgs 13 rfl) (by decide) ?_
  refine j_goto 33 (dk dt_X12_leastArgs 14 rfl) (by decide) ?_
  exact j_el (T_X12_leastArgs_33 (by decide)    H) trivial
def F_X12_leastArgs  (x0 : Int) (P : Int → Prop) : Prop :=
  (if x0 = 30 then F_X12_leastArgs_33 3 P else F_X12_isMany x0 (fun x_11 => (if x_11 = 0 then F_X12_in x0 37 42 (fun x_22 => (if x_22 = 0 then F_X12_leastArgs_33 2 P else F_X12_leastArgs_28  P)) else F_X12_leastArgs_28  P)))
theorem T_X12_leastArgs  {x0 : Int} {P : Int → Prop} {h : Hp} (r_x0 : R32 x0)   (H : F_X12_leastArgs x0 P) : Con mX12_leastArgs 3 0 0 [ii (x0)] h (QPI h P) := by
  refine con_of rfl (Nat.le_of_ble_eq_true rfl) (by decide) ?_
  show J mX12_leastArgs 3 0 0 _ 0 [some (ii (x0))] [] h
  unfold F_X12_leastArgs at H
  refine j_iload_n (dk dt_X12_leastArgs 0 rfl) rfl ?_
  refine j_bipush (v := Int32.ofInt 30) (dk dt_X12_leastArgs 1 rfl) (by decide) ?_
  refine jz_icmp_ne 10 (dk dt_X12_leastArgs 2 rfl) (by decide) r_x0 (by decide) H (fun H => ?_) (fun H => ?_)
  · refine j_iconst (v := Int32.ofInt 3) (dk dt_X12_leastArgs 3 rfl) (by decide) ?_
    refine j_goto 33 (dk dt_X12_leastArgs 4 rfl) (by decide) ?_
    exact j_el (T_X12_leastArgs_33 (by decide)    H) trivial
  · refine j_iload_n (dk dt_X12_leastArgs 5 rfl) rfl ?_
    refine j_callS1 (dk dt_X12_leastArgs 6 rfl) sl_X12_514 (T_X12_isMany r_x0 H) rfl (by decide) (Nat.zero_le _) (Nat.zero_le _) (Nat.le_of_ble_eq_true rfl) (fun v_11 h_11 P_11 => ?_)
    obtain ⟨x_11, rfl, r_11, rfl, H⟩ := P_11
    dsimp only [rs]
    refine jz_if_ne 28 (dk dt_X12_leastArgs 7 rfl) (by decide) r_11 H (fun H => ?_) (fun H => ?_)
    · refine j_iload_n (dk dt_X12_leastArgs 8 rfl) rfl ?_
      refine j_bipush (v := Int32.ofInt 37) (dk dt_X12_leastArgs 9 rfl) (by decide) ?_
      refine j_bipush (v := Int32.ofInt 42) (dk dt_X12_leastArgs 10 rfl) (by decide) ?_
      refine j_callS3 (dk dt_X12_leastArgs 11 rfl) sl_X12_220 (T_X12_in r_x0 (by decide) (by decide) H) rfl (by decide) (Nat.zero_le _) (Nat.zero_le _) (Nat.le_of_ble_eq_true rfl) (fun v_22 h_22 P_22 => ?_)
      obtain ⟨x_22, rfl, r_22, rfl, H⟩ := P_22
      dsimp only [rs]
      refine jz_if_eq 32 (dk dt_X12_leastArgs 12 rfl) (by decide) r_22 H (fun H => ?_) (fun H => ?_)
      · refine j_iconst (v := Int32.ofInt 2) (dk dt_X12_leastArgs 15 rfl) (by decide) ?_
        exact j_el (T_X12_leastArgs_33 (by decide)    H) trivial
      · exact j_el (T_X12_leastArgs_28     H) trivial
    · exact j_el (T_X12_leastArgs_28     H) trivial
def F_X12_mostArgs_16  (s0 : Int) (P : Int → Prop) : Prop :=
  P s0
theorem T_X12_mostArgs_16  {s0 : Int} {P : Int → Prop} {h : Hp} (r_s0 : R32 s0)    (H : F_X12_mostArgs_16 s0 P) : J mX12_mostArgs 4 0 0 (nx (QPI h P)) 16 [none] [ii (s0)] h := by
  unfold F_X12_mostArgs_16 at H
  exact j_ireturn (dk dt_X12_mostArgs 7 rfl) rfl rfl ⟨_, rfl, r_s0, rfl, H⟩
def F_X12_mostArgs  (x0 : Int) (P : Int → Prop) : Prop :=
  F_X12_isMany x0 (fun x_1 => (if x_1 = 0 then F_X12_leastArgs x0 (fun x_13 => F_X12_mostArgs_16 x_13 P) else F_X12_mostArgs_16 8 P))
theorem T_X12_mostArgs  {x0 : Int} {P : Int → Prop} {h : Hp} (r_x0 : R32 x0)   (H : F_X12_mostArgs x0 P) : Con mX12_mostArgs 4 0 0 [ii (x0)] h (QPI h P) := by
  refine con_of rfl (Nat.le_of_ble_eq_true rfl) (by decide) ?_
  show J mX12_mostArgs 4 0 0 _ 0 [some (ii (x0))] [] h
  unfold F_X12_mostArgs at H
  refine j_iload_n (dk dt_X12_mostArgs 0 rfl) rfl ?_
  refine j_callS1 (dk dt_X12_mostArgs 1 rfl) sl_X12_514 (T_X12_isMany r_x0 H) rfl (by decide) (Nat.zero_le _) (Nat.zero_le _) (Nat.le_of_ble_eq_true rfl) (fun v_1 h_1 P_1 => ?_)
  obtain ⟨x_1, rfl, r_1, rfl, H⟩ := P_1
  dsimp only [rs]
  refine jz_if_eq 12 (dk dt_X12_mostArgs 2 rfl) (by decide) r_1 H (fun H => ?_) (fun H => ?_)
  · refine j_iload_n (dk dt_X12_mostArgs 5 rfl) rfl ?_
    refine j_callS1 (dk dt_X12_mostArgs 6 rfl) sl_X12_505 (T_X12_leastArgs r_x0 H) rfl (by decide) (Nat.zero_le _) (Nat.zero_le _) (Nat.le_of_ble_eq_true rfl) (fun v_13 h_13 P_13 => ?_)
    obtain ⟨x_13, rfl, r_13, rfl, H⟩ := P_13
    dsimp only [rs]
    exact j_el (T_X12_mostArgs_16 r_13    H) trivial
  · refine j_bipush (v := Int32.ofInt 8) (dk dt_X12_mostArgs 3 rfl) (by decide) ?_
    refine j_goto 16 (dk dt_X12_mostArgs 4 rfl) (by decide) ?_
    exact j_el (T_X12_mostArgs_16 (by decide)    H) trivial
def F_X12_readArea_191  (u : Mu) (P : Mu → Prop) : Prop :=
  F_X12_next u (fun u_192 => P u_192)
theorem T_X12_readArea_191  {u : Mu} {P : Mu → Prop} {h : Hp} {g : Nat → Nat}  (m : Ms h g u)   (H : F_X12_readArea_191 u P) : J mX12_readArea 9 0 0 (nx (QMV g P)) 191 [some (vr (some (g 0))), none, none, none, none, none, none, none, none, none, none, none] [] h := by
  unfold F_X12_readArea_191 at H
  refine j_aload_n (dk dt_X12_readArea 105 rfl) rfl ?_
  refine jz_callV0 (dk dt_X12_readArea 106 rfl) vl_X12_413 rfl (T_X12_next m H) m.1.1 rfl (by decide) (Nat.zero_le _) (Nat.zero_le _) (Nat.le_of_ble_eq_true rfl) (fun v_192 h_192 P_192 => ?_)
  obtain ⟨u_192, rfl, m_192, H⟩ := P_192
  dsimp only [rs]
  exact j_return (dk dt_X12_readArea 107 rfl) rfl ⟨_, rfl, m_192, H⟩
def F_X12_readArea_185  (x1 : Int) (u : Mu) (P : Mu → Prop) : Prop :=
  F_X12_later 3 x1 u (fun u_188 => F_X12_readArea_191 u_188 P)
theorem T_X12_readArea_185  {x1 : Int} {u : Mu} {P : Mu → Prop} {h : Hp} {g : Nat → Nat} (r_x1 : R32 x1) (m : Ms h g u)   (H : F_X12_readArea_185 x1 u P) : J mX12_readArea 9 0 0 (nx (QMV g P)) 185 [some (vr (some (g 0))), some (ii (x1)), none, none, none, none, none, none, none, none, none, none] [] h := by
  unfold F_X12_readArea_185 at H
  refine j_aload_n (dk dt_X12_readArea 101 rfl) rfl ?_
  refine j_iconst (v := Int32.ofInt 3) (dk dt_X12_readArea 102 rfl) (by decide) ?_
  refine j_iload_n (dk dt_X12_readArea 103 rfl) rfl ?_
  refine jz_callV2 (dk dt_X12_readArea 104 rfl) vl_X12_511 rfl (T_X12_later (by decide) r_x1 m H) m.1.1 rfl (by decide) (Nat.zero_le _) (Nat.zero_le _) (Nat.le_of_ble_eq_true rfl) (fun v_188 h_188 P_188 => ?_)
  obtain ⟨u_188, rfl, m_188, H⟩ := P_188
  dsimp only [rs]
  exact j_el (T_X12_readArea_191  m_188   H) (And.intro rfl trivial)
def F_X12_readArea_144  (x6 : Int) (x7 : Int) (x10 : Int) (s0 : Int) (u : Mu) (P : Mu → Prop) : Prop :=
  F_X12_lineAt s0 0 (w32 (x6 - 1)) u (fun x_160 => (0 ≤ x10 ∧ x10 < 60420 ∧ (∀ u_163, u_163 = uI u 34 x10 x_160 → F_X12_lineAt s0 1 (w32 (x7 - 1)) u_163 (fun x_178 => (0 ≤ x10 ∧ x10 < 60420 ∧ (∀ u_181, u_181 = uI u_163 35 x10 x_178 → F_X12_readArea_191 u_181 P))))))
theorem T_X12_readArea_144  {x6 : Int} {x7 : Int} {x10 : Int} {s0 : Int} {u : Mu} {P : Mu → Prop} {h : Hp} {g : Nat → Nat} (r_x6 : R32 x6) (r_x7 : R32 x7) (r_x10 : R32 x10) (r_s0 : R32 s0) (m : Ms h g u)   (H : F_X12_readArea_144 x6 x7 x10 s0 u P) : J mX12_readArea 9 0 0 (nx (QMV g P)) 144 [some (vr (some (g 0))), none, none, none, none, none, some (ii (x6)), some (ii (x7)), none, none, some (ii (x10)), none] [ii (s0)] h := by
  unfold F_X12_readArea_144 at H
  refine j_istore (dk dt_X12_readArea 77 rfl) (by decide) ?_
  refine j_aload_n (dk dt_X12_readArea 78 rfl) rfl ?_
  refine jm_getA (dk dt_X12_readArea 79 rfl) fl_X12_91 rfl (c := 14) rfl m ?_
  refine j_iload (dk dt_X12_readArea 80 rfl) rfl ?_
  refine j_aload_n (dk dt_X12_readArea 81 rfl) rfl ?_
  refine j_iload (dk dt_X12_readArea 82 rfl) rfl ?_
  refine j_iconst (v := Int32.ofInt 0) (dk dt_X12_readArea 83 rfl) (by decide) ?_
  refine j_iload (dk dt_X12_readArea 84 rfl) rfl ?_
  refine j_iconst (v := Int32.ofInt 1) (dk dt_X12_readArea 85 rfl) (by decide) ?_
  refine jz_isub (dk dt_X12_readArea 86 rfl) ?_
  refine jz_callV3 (dk dt_X12_readArea 87 rfl) vl_X12_213 rfl (T_X12_lineAt r_s0 (by decide) (r32_w _) m H) m.1.1 rfl (by decide) (Nat.zero_le _) (Nat.zero_le _) (Nat.le_of_ble_eq_true rfl) (fun v_160 h_160 P_160 => ?_)
  obtain ⟨x_160, rfl, r_160, rfl, H⟩ := P_160
  dsimp only [rs]
  obtain ⟨p_163, q_163, H⟩ := H
  refine jm_iast (dk dt_X12_readArea 88 rfl) rfl rfl m p_163 q_163 r_160 (fun h_163 m_163 => ?_)
  replace H := H _ rfl
  refine j_aload_n (dk dt_X12_readArea 89 rfl) rfl ?_
  refine jm_getA (dk dt_X12_readArea 90 rfl) fl_X12_94 rfl (c := 14) rfl m_163 ?_
  refine j_iload (dk dt_X12_readArea 91 rfl) rfl ?_
  refine j_aload_n (dk dt_X12_readArea 92 rfl) rfl ?_
  refine j_iload (dk dt_X12_readArea 93 rfl) rfl ?_
  refine j_iconst (v := Int32.ofInt 1) (dk dt_X12_readArea 94 rfl) (by decide) ?_
  refine j_iload (dk dt_X12_readArea 95 rfl) rfl ?_
  refine j_iconst (v := Int32.ofInt 1) (dk dt_X12_readArea 96 rfl) (by decide) ?_
  refine jz_isub (dk dt_X12_readArea 97 rfl) ?_
  refine jz_callV3 (dk dt_X12_readArea 98 rfl) vl_X12_213 rfl (T_X12_lineAt r_s0 (by decide) (r32_w _) m_163 H) m_163.1.1 rfl (by decide) (Nat.zero_le _) (Nat.zero_le _) (Nat.le_of_ble_eq_true rfl) (fun v_178 h_178 P_178 => ?_)
  obtain ⟨x_178, rfl, r_178, rfl, H⟩ := P_178
  dsimp only [rs]
  obtain ⟨p_181, q_181, H⟩ := H
  refine jm_iast (dk dt_X12_readArea 99 rfl) rfl rfl m_163 p_181 q_181 r_178 (fun h_181 m_181 => ?_)
  replace H := H _ rfl
  refine j_goto 191 (dk dt_X12_readArea 100 rfl) (by decide) ?_
  exact j_el (T_X12_readArea_191  m_181   H) (And.intro rfl trivial)
def F_X12_readArea  (u : Mu) (P : Mu → Prop) : Prop :=
  F_X12_corner (w32 (mI u 0 49 + 1)) u (fun x_32 u_32 => (if x_32 = 0 then F_X12_fail 1 (w32 (mI u 0 49 + 1)) u_32 (fun u_42 => P u_42) else F_X12_readVersion (mI u_32 0 55) u_32 (fun x_69 u_69 => (if mI u_69 0 41 ≤ 0 then F_X12_part 6 0 u_69 (fun x_86 u_86 => F_X12_isThere x_69 (mI u 0 52) (mI u 0 53) u_86 (fun x_96 => (if x_96 = 0 then F_X12_readArea_185 (mI u 0 48) u_86 P else F_X12_isThere x_69 (mI u_32 0 52) (mI u_32 0 53) u_86 (fun x_109 => (if x_109 = 0 then F_X12_readArea_185 (mI u 0 48) u_86 P else F_X12_meanOne x_86 x_69 (mI u 0 52) (mI u 0 53) (bOr (mI u 0 54) (bShl (mI u_32 0 54) 2)) u_86 (fun u_129 => (if 0 ≤ x_69 then F_X12_readArea_144 (mI u_32 0 52) (mI u_32 0 53) x_86 x_69 u_129 P else F_X12_readArea_144 (mI u_32 0 52) (mI u_32 0 53) x_86 40 u_129 P))))))) else P u_69))))
theorem T_X12_readArea  {u : Mu} {P : Mu → Prop} {h : Hp} {g : Nat → Nat}  (m : Ms h g u)  (H : F_X12_readArea u P) : Con mX12_readArea 9 0 0 [vr (some (g 0))] h (QMV g P) := by
  refine con_of rfl (Nat.le_of_ble_eq_true rfl) (by decide) ?_
  show J mX12_readArea 9 0 0 _ 0 [some (vr (some (g 0))), none, none, none, none, none, none, none, none, none, none, none] [] h
  unfold F_X12_readArea at H
  refine j_aload_n (dk dt_X12_readArea 0 rfl) rfl ?_
  refine jm_getI (kz := 48) (dk dt_X12_readArea 1 rfl) fl_X12_386 rfl rfl m ?_
  refine j_istore_n (dk dt_X12_readArea 2 rfl) (by decide) ?_
  refine j_aload_n (dk dt_X12_readArea 3 rfl) rfl ?_
  refine jm_getI (kz := 52) (dk dt_X12_readArea 4 rfl) fl_X12_350 rfl rfl m ?_
  refine j_istore_n (dk dt_X12_readArea 5 rfl) (by decide) ?_
  refine j_aload_n (dk dt_X12_readArea 6 rfl) rfl ?_
  refine jm_getI (kz := 53) (dk dt_X12_readArea 7 rfl) fl_X12_353 rfl rfl m ?_
  refine j_istore_n (dk dt_X12_readArea 8 rfl) (by decide) ?_
  refine j_aload_n (dk dt_X12_readArea 9 rfl) rfl ?_
  refine jm_getI (kz := 54) (dk dt_X12_readArea 10 rfl) fl_X12_356 rfl rfl m ?_
  refine j_istore (dk dt_X12_readArea 11 rfl) (by decide) ?_
  refine j_aload_n (dk dt_X12_readArea 12 rfl) rfl ?_
  refine jm_getI (kz := 49) (dk dt_X12_readArea 13 rfl) fl_X12_365 rfl rfl m ?_
  refine j_iconst (v := Int32.ofInt 1) (dk dt_X12_readArea 14 rfl) (by decide) ?_
  refine jz_iadd (dk dt_X12_readArea 15 rfl) ?_
  refine j_istore (dk dt_X12_readArea 16 rfl) (by decide) ?_
  refine j_aload_n (dk dt_X12_readArea 17 rfl) rfl ?_
  refine j_iload (dk dt_X12_readArea 18 rfl) rfl ?_
  refine jz_callV1 (dk dt_X12_readArea 19 rfl) vl_X12_380 rfl (T_X12_corner (r32_w _) m H) m.1.1 rfl (by decide) (Nat.zero_le _) (Nat.zero_le _) (Nat.le_of_ble_eq_true rfl) (fun v_32 h_32 P_32 => ?_)
  obtain ⟨x_32, u_32, rfl, r_32, m_32, H⟩ := P_32
  dsimp only [rs]
  refine jz_if_ne 46 (dk dt_X12_readArea 20 rfl) (by decide) r_32 H (fun H => ?_) (fun H => ?_)
  · refine j_aload_n (dk dt_X12_readArea 21 rfl) rfl ?_
    refine j_iconst (v := Int32.ofInt 1) (dk dt_X12_readArea 22 rfl) (by decide) ?_
    refine j_iload (dk dt_X12_readArea 23 rfl) rfl ?_
    refine jz_callV2 (dk dt_X12_readArea 24 rfl) vl_X12_296 rfl (T_X12_fail (by decide) (r32_w _) m_32 H) m_32.1.1 rfl (by decide) (Nat.zero_le _) (Nat.zero_le _) (Nat.le_of_ble_eq_true rfl) (fun v_42 h_42 P_42 => ?_)
    obtain ⟨u_42, rfl, m_42, H⟩ := P_42
    dsimp only [rs]
    exact j_return (dk dt_X12_readArea 25 rfl) rfl ⟨_, rfl, m_42, H⟩
  · refine j_aload_n (dk dt_X12_readArea 26 rfl) rfl ?_
    refine jm_getI (kz := 52) (dk dt_X12_readArea 27 rfl) fl_X12_350 rfl rfl m_32 ?_
    refine j_istore (dk dt_X12_readArea 28 rfl) (by decide) ?_
    refine j_aload_n (dk dt_X12_readArea 29 rfl) rfl ?_
    refine jm_getI (kz := 53) (dk dt_X12_readArea 30 rfl) fl_X12_353 rfl rfl m_32 ?_
    refine j_istore (dk dt_X12_readArea 31 rfl) (by decide) ?_
    refine j_aload_n (dk dt_X12_readArea 32 rfl) rfl ?_
    refine jm_getI (kz := 54) (dk dt_X12_readArea 33 rfl) fl_X12_356 rfl rfl m_32 ?_
    refine j_istore (dk dt_X12_readArea 34 rfl) (by decide) ?_
    refine j_aload_n (dk dt_X12_readArea 35 rfl) rfl ?_
    refine j_aload_n (dk dt_X12_readArea 36 rfl) rfl ?_
    refine jm_getI (kz := 55) (dk dt_X12_readArea 37 rfl) fl_X12_359 rfl rfl m_32 ?_
    refine jz_callV1 (dk dt_X12_readArea 38 rfl) vl_X12_517 rfl (T_X12_readVersion (m_32.2.1.1 _ _) m_32 H) m_32.1.1 rfl (by decide) (Nat.zero_le _) (Nat.zero_le _) (Nat.le_of_ble_eq_true rfl) (fun v_69 h_69 P_69 => ?_)
    obtain ⟨x_69, u_69, rfl, r_69, m_69, H⟩ := P_69
    dsimp only [rs]
    refine j_istore (dk dt_X12_readArea 39 rfl) (by decide) ?_
    refine j_aload_n (dk dt_X12_readArea 40 rfl) rfl ?_
    refine jm_getI (kz := 41) (dk dt_X12_readArea 41 rfl) fl_X12_277 rfl rfl m_69 ?_
    refine jz_if_le 82 (dk dt_X12_readArea 42 rfl) (by decide) (m_69.2.1.1 _ _) H (fun H => ?_) (fun H => ?_)
    · refine j_aload_n (dk dt_X12_readArea 44 rfl) rfl ?_
      refine j_bipush (v := Int32.ofInt 6) (dk dt_X12_readArea 45 rfl) (by decide) ?_
      refine j_iconst (v := Int32.ofInt 0) (dk dt_X12_readArea 46 rfl) (by decide) ?_
      refine jz_callV2 (dk dt_X12_readArea 47 rfl) vl_X12_425 rfl (T_X12_part (by decide) (by decide) m_69 H) m_69.1.1 rfl (by decide) (Nat.zero_le _) (Nat.zero_le _) (Nat.le_of_ble_eq_true rfl) (fun v_86 h_86 P_86 => ?_)
      obtain ⟨x_86, u_86, rfl, r_86, m_86, H⟩ := P_86
      dsimp only [rs]
      refine j_istore (dk dt_X12_readArea 48 rfl) (by decide) ?_
      refine j_aload_n (dk dt_X12_readArea 49 rfl) rfl ?_
      refine j_iload (dk dt_X12_readArea 50 rfl) rfl ?_
      refine j_iload_n (dk dt_X12_readArea 51 rfl) rfl ?_
      refine j_iload_n (dk dt_X12_readArea 52 rfl) rfl ?_
      refine jz_callV3 (dk dt_X12_readArea 53 rfl) vl_X12_520 rfl (T_X12_isThere r_69 (m.2.1.1 _ _) (m.2.1.1 _ _) m_86 H) m_86.1.1 rfl (by decide) (Nat.zero_le _) (Nat.zero_le _) (Nat.le_of_ble_eq_true rfl) (fun v_96 h_96 P_96 => ?_)
      obtain ⟨x_96, rfl, r_96, rfl, H⟩ := P_96
      dsimp only [rs]
      refine jz_if_eq 185 (dk dt_X12_readArea 54 rfl) (by decide) r_96 H (fun H => ?_) (fun H => ?_)
      · exact j_el (T_X12_readArea_185 (m.2.1.1 _ _) m_86   H) (And.intro rfl (And.intro rfl trivial))
      · refine j_aload_n (dk dt_X12_readArea 55 rfl) rfl ?_
        refine j_iload (dk dt_X12_readArea 56 rfl) rfl ?_
        refine j_iload (dk dt_X12_readArea 57 rfl) rfl ?_
        refine j_iload (dk dt_X12_readArea 58 rfl) rfl ?_
        refine jz_callV3 (dk dt_X12_readArea 59 rfl) vl_X12_520 rfl (T_X12_isThere r_69 (m_32.2.1.1 _ _) (m_32.2.1.1 _ _) m_86 H) m_86.1.1 rfl (by decide) (Nat.zero_le _) (Nat.zero_le _) (Nat.le_of_ble_eq_true rfl) (fun v_109 h_109 P_109 => ?_)
        obtain ⟨x_109, rfl, r_109, rfl, H⟩ := P_109
        dsimp only [rs]
        refine jz_if_eq 185 (dk dt_X12_readArea 60 rfl) (by decide) r_109 H (fun H => ?_) (fun H => ?_)
        · exact j_el (T_X12_readArea_185 (m.2.1.1 _ _) m_86   H) (And.intro rfl (And.intro rfl trivial))
        · refine j_aload_n (dk dt_X12_readArea 61 rfl) rfl ?_
          refine j_iload (dk dt_X12_readArea 62 rfl) rfl ?_
          refine j_iload (dk dt_X12_readArea 63 rfl) rfl ?_
          refine j_iload_n (dk dt_X12_readArea 64 rfl) rfl ?_
          refine j_iload_n (dk dt_X12_readArea 65 rfl) rfl ?_
          refine j_iload (dk dt_X12_readArea 66 rfl) rfl ?_
          refine j_iload (dk dt_X12_readArea 67 rfl) rfl ?_
          refine j_iconst (v := Int32.ofInt 2) (dk dt_X12_readArea 68 rfl) (by decide) ?_
          refine jz_ishl (dk dt_X12_readArea 69 rfl) ?_
          refine jz_ior (dk dt_X12_readArea 70 rfl) ?_
          refine jz_callV5 (dk dt_X12_readArea 71 rfl) vl_X12_523 rfl (T_X12_meanOne r_86 r_69 (m.2.1.1 _ _) (m.2.1.1 _ _) (r32_t _) m_86 H) m_86.1.1 rfl (by decide) (Nat.zero_le _) (Nat.zero_le _) (Nat.le_of_ble_eq_true rfl) (fun v_129 h_129 P_129 => ?_)
          obtain ⟨u_129, rfl, m_129, H⟩ := P_129
          dsimp only [rs]
          refine j_iload (dk dt_X12_readArea 72 rfl) rfl ?_
          refine jz_if_ge 142 (dk dt_X12_readArea 73 rfl) (by decide) r_69 H (fun H => ?_) (fun H => ?_)
          · refine j_iload (dk dt_X12_readArea 76 rfl) rfl ?_
            exact j_el (T_X12_readArea_144 (m_32.2.1.1 _ _) (m_32.2.1.1 _ _) r_86 r_69 m_129   H) (And.intro rfl (And.intro rfl (And.intro rfl (And.intro rfl trivial))))
          · refine j_bipush (v := Int32.ofInt 40) (dk dt_X12_readArea 74 rfl) (by decide) ?_
            refine j_goto 144 (dk dt_X12_readArea 75 rfl) (by decide) ?_
            exact j_el (T_X12_readArea_144 (m_32.2.1.1 _ _) (m_32.2.1.1 _ _) r_86 (by decide) m_129   H) (And.intro rfl (And.intro rfl (And.intro rfl (And.intro rfl trivial))))
    · exact j_return (dk dt_X12_readArea 43 rfl) rfl ⟨_, rfl, m_69, H⟩
def F_X12_isSignOf_33  (s0 : Int) (u : Mu) (P : Int → Prop) : Prop :=
  (Z1 s0 ∧ P s0)
theorem T_X12_isSignOf_33  {s0 : Int} {u : Mu} {P : Int → Prop} {h : Hp} {g : Nat → Nat} (r_s0 : R32 s0) (m : Ms h g u)   (H : F_X12_isSignOf_33 s0 u P) : J mX12_isSignOf 2 0 0 (nx (QPI h P)) 33 [none, none, none] [ii (s0)] h := by
  unfold F_X12_isSignOf_33 at H
  obtain ⟨hz_, H⟩ := H
  exact j_ireturn (dk dt_X12_isSignOf 16 rfl) rfl (nar_z hz_) ⟨_, rfl, r_s0, rfl, H⟩
def F_X12_isSignOf_32  (u : Mu) (P : Int → Prop) : Prop :=
  F_X12_isSignOf_33 0 u P
theorem T_X12_isSignOf_32  {u : Mu} {P : Int → Prop} {h : Hp} {g : Nat → Nat}  (m : Ms h g u)   (H : F_X12_isSignOf_32 u P) : J mX12_isSignOf 2 0 0 (nx (QPI h P)) 32 [none, none, none] [] h := by
  unfold F_X12_isSignOf_32 at H
  refine j_iconst (v := Int32.ofInt 0) (dk dt_X12_isSignOf 15 rfl) (by decide) ?_
  exact j_el (T_X12_isSignOf_33 (by decide) m   H) trivial
def F_X12_isSignOf  (x1 : Int) (x2 : Int) (u : Mu) (P : Int → Prop) : Prop :=
  (if mI u 0 41 = 0 then (if mI u 0 47 = 9 then F_X12_in (mI u 0 50) x1 x2 (fun x_22 => (if x_22 = 0 then F_X12_isSignOf_32 u P else F_X12_isSignOf_33 1 u P)) else F_X12_isSignOf_32 u P) else F_X12_isSignOf_32 u P)
theorem T_X12_isSignOf  {x1 : Int} {x2 : Int} {u : Mu} {P : Int → Prop} {h : Hp} {g : Nat → Nat} (r_x1 : R32 x1) (r_x2 : R32 x2) (m : Ms h g u)  (H : F_X12_isSignOf x1 x2 u P) : Con mX12_isSignOf 2 0 0 [vr (some (g 0)), ii (x1), ii (x2)] h (QPI h P) := by
  refine con_of rfl (Nat.le_of_ble_eq_true rfl) (by decide) ?_
  show J mX12_isSignOf 2 0 0 _ 0 [some (vr (some (g 0))), some (ii (x1)), some (ii (x2))] [] h
  unfold F_X12_isSignOf at H
  refine j_aload_n (dk dt_X12_isSignOf 0 rfl) rfl ?_
  refine jm_getI (kz := 41) (dk dt_X12_isSignOf 1 rfl) fl_X12_277 rfl rfl m ?_
  refine jz_if_ne 32 (dk dt_X12_isSignOf 2 rfl) (by decide) (m.2.1.1 _ _) H (fun H => ?_) (fun H => ?_)
  · refine j_aload_n (dk dt_X12_isSignOf 3 rfl) rfl ?_
    refine jm_getI (kz := 47) (dk dt_X12_isSignOf 4 rfl) fl_X12_362 rfl rfl m ?_
    refine j_bipush (v := Int32.ofInt 9) (dk dt_X12_isSignOf 5 rfl) (by decide) ?_
    refine jz_icmp_ne 32 (dk dt_X12_isSignOf 6 rfl) (by decide) (m.2.1.1 _ _) (by decide) H (fun H => ?_) (fun H => ?_)
    · refine j_aload_n (dk dt_X12_isSignOf 7 rfl) rfl ?_
      refine jm_getI (kz := 50) (dk dt_X12_isSignOf 8 rfl) fl_X12_368 rfl rfl m ?_
      refine j_iload_n (dk dt_X12_isSignOf 9 rfl) rfl ?_
      refine j_iload_n (dk dt_X12_isSignOf 10 rfl) rfl ?_
      refine j_callS3 (dk dt_X12_isSignOf 11 rfl) sl_X12_220 (T_X12_in (m.2.1.1 _ _) r_x1 r_x2 H) rfl (by decide) (Nat.zero_le _) (Nat.zero_le _) (Nat.le_of_ble_eq_true rfl) (fun v_22 h_22 P_22 => ?_)
      obtain ⟨x_22, rfl, r_22, rfl, H⟩ := P_22
      dsimp only [rs]
      refine jz_if_eq 32 (dk dt_X12_isSignOf 12 rfl) (by decide) r_22 H (fun H => ?_) (fun H => ?_)
      · exact j_el (T_X12_isSignOf_32  m   H) trivial
      · refine j_iconst (v := Int32.ofInt 1) (dk dt_X12_isSignOf 13 rfl) (by decide) ?_
        refine j_goto 33 (dk dt_X12_isSignOf 14 rfl) (by decide) ?_
        exact j_el (T_X12_isSignOf_33 (by decide) m   H) trivial
    · exact j_el (T_X12_isSignOf_32  m   H) trivial
  · exact j_el (T_X12_isSignOf_32  m   H) trivial
def F_X12_nameOf  (x0 : Int) (P : Nat → Prop) : Prop :=
  (if x0 = 30 then P 13 else (if x0 = 31 then P 14 else (if x0 = 32 then P 15 else (if x0 = 33 then P 16 else (if x0 = 34 then P 17 else (if x0 = 35 then P 18 else (if x0 = 36 then P 19 else (if x0 = 37 then P 20 else (if x0 = 38 then P 21 else (if x0 = 39 then P 22 else (if x0 = 40 then P 23 else (if x0 = 41 then P 24 else (if x0 = 42 then P 25 else (if x0 = 43 then P 26 else (if x0 = 44 then P 27 else (if x0 = 45 then P 28 else (if x0 = 46 then P 29 else P 30)))))))))))))))))
theorem T_X12_nameOf  {x0 : Int} {P : Nat → Prop} {h : Hp} (r_x0 : R32 x0)   (H : F_X12_nameOf x0 P) : Con mX12_nameOf 1 0 0 [ii (x0)] h (QPS h P) := by
  refine con_of rfl (Nat.le_of_ble_eq_true rfl) (by decide) ?_
  show J mX12_nameOf 1 0 0 _ 0 [some (ii (x0))] [] h
  unfold F_X12_nameOf at H
  refine j_iload_n (dk dt_X12_nameOf 0 rfl) rfl ?_
  by_cases y_1_0 : x0 = 30
  · rw [if_pos y_1_0] at H
    refine jz_tabIn 30 84 (dk dt_X12_nameOf 1 rfl) r_x0 y_1_0 (by decide) (by decide) rfl (by decide) ?_
    refine j_ldcwS 13 rfl (dk dt_X12_nameOf 2 rfl) rfl rfl ?_
    exact j_areturnS (dk dt_X12_nameOf 3 rfl) rfl rfl ⟨_, rfl, rfl, H⟩
  rw [if_neg y_1_0] at H
  by_cases y_1_1 : x0 = 31
  · rw [if_pos y_1_1] at H
    refine jz_tabIn 31 88 (dk dt_X12_nameOf 1 rfl) r_x0 y_1_1 (by decide) (by decide) rfl (by decide) ?_
    refine j_ldcwS 14 rfl (dk dt_X12_nameOf 4 rfl) rfl rfl ?_
    exact j_areturnS (dk dt_X12_nameOf 5 rfl) rfl rfl ⟨_, rfl, rfl, H⟩
  rw [if_neg y_1_1] at H
  by_cases y_1_2 : x0 = 32
  · rw [if_pos y_1_2] at H
    refine jz_tabIn 32 92 (dk dt_X12_nameOf 1 rfl) r_x0 y_1_2 (by decide) (by decide) rfl (by decide) ?_
    refine j_ldcwS 15 rfl (dk dt_X12_nameOf 6 rfl) rfl rfl ?_
    exact j_areturnS (dk dt_X12_nameOf 7 rfl) rfl rfl ⟨_, rfl, rfl, H⟩
  rw [if_neg y_1_2] at H
  by_cases y_1_3 : x0 = 33
  · rw [if_pos y_1_3] at H
    refine jz_tabIn 33 96 (dk dt_X12_nameOf 1 rfl) r_x0 y_1_3 (by decide) (by decide) rfl (by decide) ?_
    refine j_ldcwS 16 rfl (dk dt_X12_nameOf 8 rfl) rfl rfl ?_
    exact j_areturnS (dk dt_X12_nameOf 9 rfl) rfl rfl ⟨_, rfl, rfl, H⟩
  rw [if_neg y_1_3] at H
  by_cases y_1_4 : x0 = 34
  · rw [if_pos y_1_4] at H
    refine jz_tabIn 34 100 (dk dt_X12_nameOf 1 rfl) r_x0 y_1_4 (by decide) (by decide) rfl (by decide) ?_
    refine j_ldcwS 17 rfl (dk dt_X12_nameOf 10 rfl) rfl rfl ?_
    exact j_areturnS (dk dt_X12_nameOf 11 rfl) rfl rfl ⟨_, rfl, rfl, H⟩
  rw [if_neg y_1_4] at H
  by_cases y_1_5 : x0 = 35
  · rw [if_pos y_1_5] at H
    refine jz_tabIn 35 104 (dk dt_X12_nameOf 1 rfl) r_x0 y_1_5 (by decide) (by decide) rfl (by decide) ?_
    refine j_ldcwS 18 rfl (dk dt_X12_nameOf 12 rfl) rfl rfl ?_
    exact j_areturnS (dk dt_X12_nameOf 13 rfl) rfl rfl ⟨_, rfl, rfl, H⟩
  rw [if_neg y_1_5] at H
  by_cases y_1_6 : x0 = 36
  · rw [if_pos y_1_6] at H
    refine jz_tabIn 36 108 (dk dt_X12_nameOf 1 rfl) r_x0 y_1_6 (by decide) (by decide) rfl (by decide) ?_
    refine j_ldcwS 19 rfl (dk dt_X12_nameOf 14 rfl) rfl rfl ?_
    exact j_areturnS (dk dt_X12_nameOf 15 rfl) rfl rfl ⟨_, rfl, rfl, H⟩
  rw [if_neg y_1_6] at H
  by_cases y_1_7 : x0 = 37
  · rw [if_pos y_1_7] at H
    refine jz_tabIn 37 112 (dk dt_X12_nameOf 1 rfl) r_x0 y_1_7 (by decide) (by decide) rfl (by decide) ?_
    refine j_ldcwS 20 rfl (dk dt_X12_nameOf 16 rfl) rfl rfl ?_
    exact j_areturnS (dk dt_X12_nameOf 17 rfl) rfl rfl ⟨_, rfl, rfl, H⟩
  rw [if_neg y_1_7] at H
  by_cases y_1_8 : x0 = 38
  · rw [if_pos y_1_8] at H
    refine jz_tabIn 38 116 (dk dt_X12_nameOf 1 rfl) r_x0 y_1_8 (by decide) (by decide) rfl (by decide) ?_
    refine j_ldcwS 21 rfl (dk dt_X12_nameOf 18 rfl) rfl rfl ?_
    exact j_areturnS (dk dt_X12_nameOf 19 rfl) rfl rfl ⟨_, rfl, rfl, H⟩
  rw [if_neg y_1_8] at H
  by_cases y_1_9 : x0 = 39
  · rw [if_pos y_1_9] at H
    refine jz_tabIn 39 120 (dk dt_X12_nameOf 1 rfl) r_x0 y_1_9 (by decide) (by decide) rfl (by decide) ?_
    refine j_ldcwS 22 rfl (dk dt_X12_nameOf 20 rfl) rfl rfl ?_
    exact j_areturnS (dk dt_X12_nameOf 21 rfl) rfl rfl ⟨_, rfl, rfl, H⟩
  rw [if_neg y_1_9] at H
  by_cases y_1_10 : x0 = 40
  · rw [if_pos y_1_10] at H
    refine jz_tabIn 40 124 (dk dt_X12_nameOf 1 rfl) r_x0 y_1_10 (by decide) (by decide) rfl (by decide) ?_
    refine j_ldcwS 23 rfl (dk dt_X12_nameOf 22 rfl) rfl rfl ?_
    exact j_areturnS (dk dt_X12_nameOf 23 rfl) rfl rfl ⟨_, rfl, rfl, H⟩
  rw [if_neg y_1_10] at H
  by_cases y_1_11 : x0 = 41
  · rw [if_pos y_1_11] at H
    refine jz_tabIn 41 128 (dk dt_X12_nameOf 1 rfl) r_x0 y_1_11 (by decide) (by decide) rfl (by decide) ?_
    refine j_ldcwS 24 rfl (dk dt_X12_nameOf 24 rfl) rfl rfl ?_
    exact j_areturnS (dk dt_X12_nameOf 25 rfl) rfl rfl ⟨_, rfl, rfl, H⟩
  rw [if_neg y_1_11] at H
  by_cases y_1_12 : x0 = 42
  · rw [if_pos y_1_12] at H
    refine jz_tabIn 42 132 (dk dt_X12_nameOf 1 rfl) r_x0 y_1_12 (by decide) (by decide) rfl (by decide) ?_
    refine j_ldcwS 25 rfl (dk dt_X12_nameOf 26 rfl) rfl rfl ?_
    exact j_areturnS (dk dt_X12_nameOf 27 rfl) rfl rfl ⟨_, rfl, rfl, H⟩
  rw [if_neg y_1_12] at H
  by_cases y_1_13 : x0 = 43
  · rw [if_pos y_1_13] at H
    refine jz_tabIn 43 136 (dk dt_X12_nameOf 1 rfl) r_x0 y_1_13 (by decide) (by decide) rfl (by decide) ?_
    refine j_ldcwS 26 rfl (dk dt_X12_nameOf 28 rfl) rfl rfl ?_
    exact j_areturnS (dk dt_X12_nameOf 29 rfl) rfl rfl ⟨_, rfl, rfl, H⟩
  rw [if_neg y_1_13] at H
  by_cases y_1_14 : x0 = 44
  · rw [if_pos y_1_14] at H
    refine jz_tabIn 44 140 (dk dt_X12_nameOf 1 rfl) r_x0 y_1_14 (by decide) (by decide) rfl (by decide) ?_
    refine j_ldcwS 27 rfl (dk dt_X12_nameOf 30 rfl) rfl rfl ?_
    exact j_areturnS (dk dt_X12_nameOf 31 rfl) rfl rfl ⟨_, rfl, rfl, H⟩
  rw [if_neg y_1_14] at H
  by_cases y_1_15 : x0 = 45
  · rw [if_pos y_1_15] at H
    refine jz_tabIn 45 144 (dk dt_X12_nameOf 1 rfl) r_x0 y_1_15 (by decide) (by decide) rfl (by decide) ?_
    refine j_ldcwS 28 rfl (dk dt_X12_nameOf 32 rfl) rfl rfl ?_
    exact j_areturnS (dk dt_X12_nameOf 33 rfl) rfl rfl ⟨_, rfl, rfl, H⟩
  rw [if_neg y_1_15] at H
  by_cases y_1_16 : x0 = 46
  · rw [if_pos y_1_16] at H
    refine jz_tabIn 46 148 (dk dt_X12_nameOf 1 rfl) r_x0 y_1_16 (by decide) (by decide) rfl (by decide) ?_
    refine j_ldcwS 29 rfl (dk dt_X12_nameOf 34 rfl) rfl rfl ?_
    exact j_areturnS (dk dt_X12_nameOf 35 rfl) rfl rfl ⟨_, rfl, rfl, H⟩
  rw [if_neg y_1_16] at H
  refine jz_tabOut 152 (dk dt_X12_nameOf 1 rfl) r_x0 (by omega) (by decide) ?_
  refine j_ldcwS 30 rfl (dk dt_X12_nameOf 36 rfl) rfl rfl ?_
  exact j_areturnS (dk dt_X12_nameOf 37 rfl) rfl rfl ⟨_, rfl, rfl, H⟩
