def F_X12_together_20  (u : Mu) (P : Int → Mu → Prop) : Prop :=
  P (-1) u
theorem T_X12_together_20  {u : Mu} {P : Int → Mu → Prop} {h : Hp} {g : Nat → Nat}  (m : Ms h g u)   (H : F_X12_together_20 u P) : J mX12_together 8 0 0 (nx (QMI g P)) 20 [none, none, none, none] [] h := by
  unfold F_X12_together_20 at H
  refine j_iconst (v := Int32.ofInt (-1)) (dk dt_X12_together 12 rfl) (by decide) ?_
  exact j_ireturn (dk dt_X12_together 13 rfl) rfl rfl ⟨_, _, rfl, (by decide), m, H⟩
def F_X12_together_103  (x1 : Int) (x2 : Int) (x3 : Int) (u : Mu) (P : (Int × Mu) ⊕ ((Mu)) → Prop) : Prop :=
  P (.inl (w32 (x3 + 1), u))
theorem T_X12_together_103  {x1 : Int} {x2 : Int} {x3 : Int} {u : Mu} {P : (Int × Mu) ⊕ ((Mu)) → Prop} {h : Hp} {g : Nat → Nat} {post : Option Sv ⊕ String → Hp → Prop} (r_x1 : R32 x1) (r_x2 : R32 x2) (r_x3 : R32 x3) (m : Ms h g u)  (hl : ∀ (x3 : Int) (u : Mu) (h : Hp), P (.inl (x3, u)) → Ms h g u → R32 x3 → J mX12_together 8 0 0 post 43 [some (vr (some (g 0))), some (ii (x1)), some (ii (x2)), some (ii (x3))] [] h) (he0 : ∀ (u : Mu) (h : Hp), P (.inr u) → Ms h g u → J mX12_together 8 0 0 post 109 [some (vr (some (g 0))), none, none, none] [] h) (H : F_X12_together_103 x1 x2 x3 u P) : J mX12_together 8 0 0 (post) 103 [some (vr (some (g 0))), some (ii (x1)), some (ii (x2)), some (ii (x3))] [] h := by
  unfold F_X12_together_103 at H
  refine jz_iinc (dk dt_X12_together 65 rfl) rfl ?_
  refine j_goto 43 (dk dt_X12_together 66 rfl) (by decide) ?_
  exact j_el (hl _ _ _ H m (r32_w _)) (And.intro rfl (And.intro rfl (And.intro rfl (And.intro rfl trivial))))
def L_X12_together_43  (x1 : Int) (x2 : Int) (x3 : Int) (u : Mu) (P : (Int × Mu) ⊕ ((Mu)) → Prop) : Prop :=
  (if 320 ≤ x3 then P (.inr u) else (0 ≤ w32 (38720 + x3) ∧ w32 (38720 + x3) < 39040 ∧ (∀ u_60, u_60 = uI u 5 (w32 (38720 + x3)) 0 → (if mI u_60 1 121 ≤ w32 (Int.tdiv x3 10) then F_X12_together_103 x1 x2 x3 u_60 P else (if mI u_60 2 121 ≤ w32 (Int.tmod x3 10) then F_X12_together_103 x1 x2 x3 u_60 P else F_X12_newCell x1 x2 (w32 (Int.tdiv x3 10)) (w32 (Int.tmod x3 10)) u_60 (fun u_100 => F_X12_together_103 x1 x2 x3 u_100 P))))))
theorem U_X12_together_43  {x1 : Int} {x2 : Int} {x3 : Int} {u : Mu} {P : (Int × Mu) ⊕ ((Mu)) → Prop} {h : Hp} {g : Nat → Nat} {post : Option Sv ⊕ String → Hp → Prop} (r_x1 : R32 x1) (r_x2 : R32 x2) (r_x3 : R32 x3) (m : Ms h g u)  (hl : ∀ (x3 : Int) (u : Mu) (h : Hp), P (.inl (x3, u)) → Ms h g u → R32 x3 → J mX12_together 8 0 0 post 43 [some (vr (some (g 0))), some (ii (x1)), some (ii (x2)), some (ii (x3))] [] h) (he0 : ∀ (u : Mu) (h : Hp), P (.inr u) → Ms h g u → J mX12_together 8 0 0 post 109 [some (vr (some (g 0))), none, none, none] [] h) (H : L_X12_together_43 x1 x2 x3 u P) : J mX12_together 8 0 0 post 43 [some (vr (some (g 0))), some (ii (x1)), some (ii (x2)), some (ii (x3))] [] h := by
  unfold L_X12_together_43 at H
  refine j_iload_n (dk dt_X12_together 29 rfl) rfl ?_
  refine j_sipush (v := Int32.ofInt 320) (dk dt_X12_together 30 rfl) (by decide) ?_
  refine jz_icmp_ge 109 (dk dt_X12_together 31 rfl) (by decide) r_x3 (by decide) H (fun H => ?_) (fun H => ?_)
  · exact j_el (he0 _ _ H m) (And.intro rfl trivial)
  · refine j_aload_n (dk dt_X12_together 32 rfl) rfl ?_
    refine jm_getA (dk dt_X12_together 33 rfl) fl_X12_23 rfl (c := 14) rfl m ?_
    refine j_ldcw (v := Int32.ofInt (38720)) (dk dt_X12_together 34 rfl) (by exact kl_X12_917) ?_
    refine j_iload_n (dk dt_X12_together 35 rfl) rfl ?_
    refine jz_iadd (dk dt_X12_together 36 rfl) ?_
    refine j_iconst (v := Int32.ofInt 0) (dk dt_X12_together 37 rfl) (by decide) ?_
    obtain ⟨p_60, q_60, H⟩ := H
    refine jm_iast (dk dt_X12_together 38 rfl) rfl rfl m p_60 q_60 (by decide) (fun h_60 m_60 => ?_)
    replace H := H _ rfl
    refine j_iload_n (dk dt_X12_together 39 rfl) rfl ?_
    refine j_bipush (v := Int32.ofInt 10) (dk dt_X12_together 40 rfl) (by decide) ?_
    refine jz_idiv (dk dt_X12_together 41 rfl) r_x3 (by decide) (by decide) ?_
    refine j_aload_n (dk dt_X12_together 42 rfl) rfl ?_
    refine jm_getA (dk dt_X12_together 43 rfl) fl_X12_7 rfl (c := 14) rfl m_60 ?_
    refine j_bipush (v := Int32.ofInt 121) (dk dt_X12_together 44 rfl) (by decide) ?_
    refine jm_iald (dk dt_X12_together 45 rfl) rfl rfl m_60 (by decide) (by decide) ?_
    refine jz_icmp_ge 103 (dk dt_X12_together 46 rfl) (by decide) (r32_w _) (m_60.2.1.1 _ _) H (fun H => ?_) (fun H => ?_)
    · exact j_el (T_X12_together_103 r_x1 r_x2 r_x3 m_60  hl he0 H) (And.intro rfl (And.intro rfl (And.intro rfl (And.intro rfl trivial))))
    · refine j_iload_n (dk dt_X12_together 47 rfl) rfl ?_
      refine j_bipush (v := Int32.ofInt 10) (dk dt_X12_together 48 rfl) (by decide) ?_
      refine jz_irem (dk dt_X12_together 49 rfl) r_x3 (by decide) (by decide) ?_
      refine j_aload_n (dk dt_X12_together 50 rfl) rfl ?_
      refine jm_getA (dk dt_X12_together 51 rfl) fl_X12_13 rfl (c := 14) rfl m_60 ?_
      refine j_bipush (v := Int32.ofInt 121) (dk dt_X12_together 52 rfl) (by decide) ?_
      refine jm_iald (dk dt_X12_together 53 rfl) rfl rfl m_60 (by decide) (by decide) ?_
      refine jz_icmp_ge 103 (dk dt_X12_together 54 rfl) (by decide) (r32_w _) (m_60.2.1.1 _ _) H (fun H => ?_) (fun H => ?_)
      · exact j_el (T_X12_together_103 r_x1 r_x2 r_x3 m_60  hl he0 H) (And.intro rfl (And.intro rfl (And.intro rfl (And.intro rfl trivial))))
      · refine j_aload_n (dk dt_X12_together 55 rfl) rfl ?_
        refine j_iload_n (dk dt_X12_together 56 rfl) rfl ?_
        refine j_iload_n (dk dt_X12_together 57 rfl) rfl ?_
        refine j_iload_n (dk dt_X12_together 58 rfl) rfl ?_
        refine j_bipush (v := Int32.ofInt 10) (dk dt_X12_together 59 rfl) (by decide) ?_
        refine jz_idiv (dk dt_X12_together 60 rfl) r_x3 (by decide) (by decide) ?_
        refine j_iload_n (dk dt_X12_together 61 rfl) rfl ?_
        refine j_bipush (v := Int32.ofInt 10) (dk dt_X12_together 62 rfl) (by decide) ?_
        refine jz_irem (dk dt_X12_together 63 rfl) r_x3 (by decide) (by decide) ?_
        refine jz_callV4 (dk dt_X12_together 64 rfl) vl_X12_924 rfl (T_X12_newCell r_x1 r_x2 (r32_w _) (r32_w _) m_60 H) m_60.1.1 rfl (by decide) (Nat.zero_le _) (Nat.zero_le _) (Nat.le_of_ble_eq_true rfl) (fun v_100 h_100 P_100 => ?_)
        obtain ⟨u_100, rfl, m_100, H⟩ := P_100
        dsimp only [rs]
        exact j_el (T_X12_together_103 r_x1 r_x2 r_x3 m_100  hl he0 H) (And.intro rfl (And.intro rfl (And.intro rfl (And.intro rfl trivial))))
def F_X12_together_43  (x1 : Int) (x2 : Int) (x3 : Int) (u : Mu) (P : Int → Mu → Prop) : Prop :=
  lp (S := Int × Mu) (E := (Mu)) (fun q P_ => L_X12_together_43 x1 x2 q.1 q.2 P_) (x3, u) (fun (u : Mu) => F_X12_copySheet 121 40 u (fun u_114 => F_X12_forgetSteps u_114 (fun u_118 => (∀ u_128, u_128 = uI u_118 0 14 (w32 (mI u_118 0 14 + 1)) → P (mI u_128 0 98) u_128))))
theorem T_X12_together_43  {x1 : Int} {x2 : Int} {x3 : Int} {u : Mu} {P : Int → Mu → Prop} {h : Hp} {g : Nat → Nat} (r_x1 : R32 x1) (r_x2 : R32 x2) (r_x3 : R32 x3) (m : Ms h g u)   (H : F_X12_together_43 x1 x2 x3 u P) : J mX12_together 8 0 0 (nx (QMI g P)) 43 [some (vr (some (g 0))), some (ii (x1)), some (ii (x2)), some (ii (x3))] [] h := by
  unfold F_X12_together_43 at H
  refine lp_J (G := fun q => ∀ h : Hp, Ms h g (q.2) → R32 (q.1) → J mX12_together 8 0 0 (nx (QMI g P)) 43 [some (vr (some (g 0))), some (ii (x1)), some (ii (x2)), some (ii ((q.1)))] [] h) (fun q P_ hl_ he_ Hb => ?_) (x3, u) H _ m r_x3
  obtain ⟨x3, u⟩ := q
  intro h m r_x3
  refine U_X12_together_43 (P := P_) r_x1 r_x2 r_x3 m  (fun x3 u h Hp m r_x3 => hl_ (x3, u) Hp h m r_x3) ?_ Hb
  · intro u h Hp m
    have H := he_ _ Hp
    refine j_aload_n (dk dt_X12_together 67 rfl) rfl ?_
    refine j_bipush (v := Int32.ofInt 121) (dk dt_X12_together 68 rfl) (by decide) ?_
    refine j_bipush (v := Int32.ofInt 40) (dk dt_X12_together 69 rfl) (by decide) ?_
    refine jz_callV2 (dk dt_X12_together 70 rfl) vl_X12_198 rfl (T_X12_copySheet (by decide) (by decide) m H) m.1.1 rfl (by decide) (Nat.zero_le _) (Nat.zero_le _) (Nat.le_of_ble_eq_true rfl) (fun v_114 h_114 P_114 => ?_)
    obtain ⟨u_114, rfl, m_114, H⟩ := P_114
    dsimp only [rs]
    refine j_aload_n (dk dt_X12_together 71 rfl) rfl ?_
    refine jz_callV0 (dk dt_X12_together 72 rfl) vl_X12_874 rfl (T_X12_forgetSteps m_114 H) m_114.1.1 rfl (by decide) (Nat.zero_le _) (Nat.zero_le _) (Nat.le_of_ble_eq_true rfl) (fun v_118 h_118 P_118 => ?_)
    obtain ⟨u_118, rfl, m_118, H⟩ := P_118
    dsimp only [rs]
    refine j_aload_n (dk dt_X12_together 73 rfl) rfl ?_
    refine j_dup (dk dt_X12_together 74 rfl) rfl ?_
    refine jm_getI (kz := 14) (dk dt_X12_together 75 rfl) fl_X12_927 rfl rfl m_118 ?_
    refine j_iconst (v := Int32.ofInt 1) (dk dt_X12_together 76 rfl) (by decide) ?_
    refine jz_iadd (dk dt_X12_together 77 rfl) ?_
    refine jm_putI (kz := 14) (dk dt_X12_together 78 rfl) fl_X12_927 rfl rfl rfl rfl m_118 (r32_w _) (fun h_128 m_128 => ?_)
    replace H := H _ rfl
    refine j_aload_n (dk dt_X12_together 79 rfl) rfl ?_
    refine jm_getI (kz := 98) (dk dt_X12_together 80 rfl) fl_X12_868 rfl rfl m_128 ?_
    exact j_ireturn (dk dt_X12_together 81 rfl) rfl rfl ⟨_, _, rfl, (m_128.2.1.1 _ _), m_128, H⟩
def F_X12_together  (x1 : Int) (x2 : Int) (u : Mu) (P : Int → Mu → Prop) : Prop :=
  F_X12_newLines x1 x2 0 u (fun x_4 u_4 => (if x_4 = 0 then F_X12_together_20 u_4 P else F_X12_newLines x1 x2 1 u_4 (fun x_14 u_14 => (if x_14 = 0 then F_X12_together_20 u_14 P else (∀ u_24, u_24 = uI u_14 0 98 0 → F_X12_lineConflicts x1 x2 0 u_24 (fun u_31 => F_X12_lineConflicts x1 x2 1 u_31 (fun u_38 => F_X12_together_43 x1 x2 0 u_38 P)))))))
theorem T_X12_together  {x1 : Int} {x2 : Int} {u : Mu} {P : Int → Mu → Prop} {h : Hp} {g : Nat → Nat} (r_x1 : R32 x1) (r_x2 : R32 x2) (m : Ms h g u)  (H : F_X12_together x1 x2 u P) : Con mX12_together 8 0 0 [vr (some (g 0)), ii (x1), ii (x2)] h (QMI g P) := by
  refine con_of rfl (Nat.le_of_ble_eq_true rfl) (by decide) ?_
  show J mX12_together 8 0 0 _ 0 [some (vr (some (g 0))), some (ii (x1)), some (ii (x2)), none] [] h
  unfold F_X12_together at H
  refine j_aload_n (dk dt_X12_together 0 rfl) rfl ?_
  refine j_iload_n (dk dt_X12_together 1 rfl) rfl ?_
  refine j_iload_n (dk dt_X12_together 2 rfl) rfl ?_
  refine j_iconst (v := Int32.ofInt 0) (dk dt_X12_together 3 rfl) (by decide) ?_
  refine jz_callV3 (dk dt_X12_together 4 rfl) vl_X12_918 rfl (T_X12_newLines r_x1 r_x2 (by decide) m H) m.1.1 rfl (by decide) (Nat.zero_le _) (Nat.zero_le _) (Nat.le_of_ble_eq_true rfl) (fun v_4 h_4 P_4 => ?_)
  obtain ⟨x_4, u_4, rfl, r_4, m_4, H⟩ := P_4
  dsimp only [rs]
  refine jz_if_eq 20 (dk dt_X12_together 5 rfl) (by decide) r_4 H (fun H => ?_) (fun H => ?_)
  · exact j_el (T_X12_together_20  m_4   H) trivial
  · refine j_aload_n (dk dt_X12_together 6 rfl) rfl ?_
    refine j_iload_n (dk dt_X12_together 7 rfl) rfl ?_
    refine j_iload_n (dk dt_X12_together 8 rfl) rfl ?_
    refine j_iconst (v := Int32.ofInt 1) (dk dt_X12_together 9 rfl) (by decide) ?_
    refine jz_callV3 (dk dt_X12_together 10 rfl) vl_X12_918 rfl (T_X12_newLines r_x1 r_x2 (by decide) m_4 H) m_4.1.1 rfl (by decide) (Nat.zero_le _) (Nat.zero_le _) (Nat.le_of_ble_eq_true rfl) (fun v_14 h_14 P_14 => ?_)
    obtain ⟨x_14, u_14, rfl, r_14, m_14, H⟩ := P_14
    dsimp only [rs]
    refine jz_if_ne 22 (dk dt_X12_together 11 rfl) (by decide) r_14 H (fun H => ?_) (fun H => ?_)
    · exact j_el (T_X12_together_20  m_14   H) trivial
    · refine j_aload_n (dk dt_X12_together 14 rfl) rfl ?_
      refine j_iconst (v := Int32.ofInt 0) (dk dt_X12_together 15 rfl) (by decide) ?_
      refine jm_putI (kz := 98) (dk dt_X12_together 16 rfl) fl_X12_868 rfl rfl rfl rfl m_14 (by decide) (fun h_24 m_24 => ?_)
      replace H := H _ rfl
      refine j_aload_n (dk dt_X12_together 17 rfl) rfl ?_
      refine j_iload_n (dk dt_X12_together 18 rfl) rfl ?_
      refine j_iload_n (dk dt_X12_together 19 rfl) rfl ?_
      refine j_iconst (v := Int32.ofInt 0) (dk dt_X12_together 20 rfl) (by decide) ?_
      refine jz_callV3 (dk dt_X12_together 21 rfl) vl_X12_921 rfl (T_X12_lineConflicts r_x1 r_x2 (by decide) m_24 H) m_24.1.1 rfl (by decide) (Nat.zero_le _) (Nat.zero_le _) (Nat.le_of_ble_eq_true rfl) (fun v_31 h_31 P_31 => ?_)
      obtain ⟨u_31, rfl, m_31, H⟩ := P_31
      dsimp only [rs]
      refine j_aload_n (dk dt_X12_together 22 rfl) rfl ?_
      refine j_iload_n (dk dt_X12_together 23 rfl) rfl ?_
      refine j_iload_n (dk dt_X12_together 24 rfl) rfl ?_
      refine j_iconst (v := Int32.ofInt 1) (dk dt_X12_together 25 rfl) (by decide) ?_
      refine jz_callV3 (dk dt_X12_together 26 rfl) vl_X12_921 rfl (T_X12_lineConflicts r_x1 r_x2 (by decide) m_31 H) m_31.1.1 rfl (by decide) (Nat.zero_le _) (Nat.zero_le _) (Nat.le_of_ble_eq_true rfl) (fun v_38 h_38 P_38 => ?_)
      obtain ⟨u_38, rfl, m_38, H⟩ := P_38
      dsimp only [rs]
      refine j_iconst (v := Int32.ofInt 0) (dk dt_X12_together 27 rfl) (by decide) ?_
      refine j_istore_n (dk dt_X12_together 28 rfl) (by decide) ?_
      exact j_el (T_X12_together_43 r_x1 r_x2 (by decide) m_38   H) (And.intro rfl (And.intro rfl (And.intro rfl (And.intro rfl trivial))))
def F_X12_merge  (x1 : Int) (u : Mu) (P : Int → Mu → Prop) : Prop :=
  (∀ u_2, u_2 = uI u 0 0 0 → F_X12_in x1 0 5 (fun x_8 => (if x_8 = 0 then F_X12_throwing 1 u_2 (fun x_16 u_16 => P x_16 u_16) else (0 ≤ x1 ∧ x1 < 6 ∧ (if 0 ≤ mI u_2 11 x1 then F_X12_bars 3 u_2 (fun x_37 => (if x_37 ≤ 0 then F_X12_head u_2 (fun x_63 => F_X12_base (mI u_2 11 x1) x_63 u_2 (fun x_66 u_66 => (if x_66 = mI u_2 11 x1 then P (-1) u_66 else F_X12_together (mI u_2 11 x1) x_66 u_66 (fun x_80 u_80 => (if 0 ≤ x_80 then (∀ u_98, u_98 = uI u_80 0 13 (mI u_2 11 x1) → P x_80 u_98) else F_X12_throwing 4 u_80 (fun x_92 u_92 => P x_92 u_92)))))) else F_X12_bars 3 u_2 (fun x_46 => F_X12_throwing x_46 u_2 (fun x_49 u_49 => P x_49 u_49)))) else F_X12_throwing 2 u_2 (fun x_31 u_31 => P x_31 u_31))))))
theorem T_X12_merge  {x1 : Int} {u : Mu} {P : Int → Mu → Prop} {h : Hp} {g : Nat → Nat} (r_x1 : R32 x1) (m : Ms h g u)  (H : F_X12_merge x1 u P) : Con mX12_merge 9 0 0 [vr (some (g 0)), ii (x1)] h (QMI g P) := by
  refine con_of rfl (Nat.le_of_ble_eq_true rfl) (by decide) ?_
  show J mX12_merge 9 0 0 _ 0 [some (vr (some (g 0))), some (ii (x1)), none, none, none] [] h
  unfold F_X12_merge at H
  refine j_aload_n (dk dt_X12_merge 0 rfl) rfl ?_
  refine j_iconst (v := Int32.ofInt 0) (dk dt_X12_merge 1 rfl) (by decide) ?_
  refine jm_putI (kz := 0) (dk dt_X12_merge 2 rfl) fl_X12_202 rfl rfl rfl rfl m (by decide) (fun h_2 m_2 => ?_)
  replace H := H _ rfl
  refine j_iload_n (dk dt_X12_merge 3 rfl) rfl ?_
  refine j_iconst (v := Int32.ofInt 0) (dk dt_X12_merge 4 rfl) (by decide) ?_
  refine j_iconst (v := Int32.ofInt 5) (dk dt_X12_merge 5 rfl) (by decide) ?_
  refine j_callS3 (dk dt_X12_merge 6 rfl) sl_X12_220 (T_X12_in r_x1 (by decide) (by decide) H) rfl (by decide) (Nat.zero_le _) (Nat.zero_le _) (Nat.le_of_ble_eq_true rfl) (fun v_8 h_8 P_8 => ?_)
  obtain ⟨x_8, rfl, r_8, rfl, H⟩ := P_8
  dsimp only [rs]
  refine jz_if_ne 20 (dk dt_X12_merge 7 rfl) (by decide) r_8 H (fun H => ?_) (fun H => ?_)
  · refine j_aload_n (dk dt_X12_merge 8 rfl) rfl ?_
    refine j_iconst (v := Int32.ofInt 1) (dk dt_X12_merge 9 rfl) (by decide) ?_
    refine jz_callV1 (dk dt_X12_merge 10 rfl) vl_X12_237 rfl (T_X12_throwing (by decide) m_2 H) m_2.1.1 rfl (by decide) (Nat.zero_le _) (Nat.zero_le _) (Nat.le_of_ble_eq_true rfl) (fun v_16 h_16 P_16 => ?_)
    obtain ⟨x_16, u_16, rfl, r_16, m_16, H⟩ := P_16
    dsimp only [rs]
    exact j_ireturn (dk dt_X12_merge 11 rfl) rfl rfl ⟨_, _, rfl, r_16, m_16, H⟩
  · refine j_aload_n (dk dt_X12_merge 12 rfl) rfl ?_
    refine jm_getA (dk dt_X12_merge 13 rfl) fl_X12_42 rfl (c := 14) rfl m_2 ?_
    refine j_iload_n (dk dt_X12_merge 14 rfl) rfl ?_
    obtain ⟨p_25, q_25, H⟩ := H
    refine jm_iald (dk dt_X12_merge 15 rfl) rfl rfl m_2 p_25 q_25 ?_
    refine jz_if_ge 35 (dk dt_X12_merge 16 rfl) (by decide) (m_2.2.1.1 _ _) H (fun H => ?_) (fun H => ?_)
    · refine j_aload_n (dk dt_X12_merge 21 rfl) rfl ?_
      refine j_iconst (v := Int32.ofInt 3) (dk dt_X12_merge 22 rfl) (by decide) ?_
      refine jz_callV1 (dk dt_X12_merge 23 rfl) vl_X12_930 rfl (T_X12_bars (by decide) m_2 H) m_2.1.1 rfl (by decide) (Nat.zero_le _) (Nat.zero_le _) (Nat.le_of_ble_eq_true rfl) (fun v_37 h_37 P_37 => ?_)
      obtain ⟨x_37, rfl, r_37, rfl, H⟩ := P_37
      dsimp only [rs]
      refine jz_if_le 53 (dk dt_X12_merge 24 rfl) (by decide) r_37 H (fun H => ?_) (fun H => ?_)
      · refine j_aload_n (dk dt_X12_merge 31 rfl) rfl ?_
        refine jm_getA (dk dt_X12_merge 32 rfl) fl_X12_42 rfl (c := 14) rfl m_2 ?_
        refine j_iload_n (dk dt_X12_merge 33 rfl) rfl ?_
        refine jm_iald (dk dt_X12_merge 34 rfl) rfl rfl m_2 p_25 q_25 ?_
        refine j_istore_n (dk dt_X12_merge 35 rfl) (by decide) ?_
        refine j_aload_n (dk dt_X12_merge 36 rfl) rfl ?_
        refine j_iload_n (dk dt_X12_merge 37 rfl) rfl ?_
        refine j_aload_n (dk dt_X12_merge 38 rfl) rfl ?_
        refine jz_callV0 (dk dt_X12_merge 39 rfl) vl_X12_860 rfl (T_X12_head m_2 H) m_2.1.1 rfl (by decide) (Nat.zero_le _) (Nat.zero_le _) (Nat.le_of_ble_eq_true rfl) (fun v_63 h_63 P_63 => ?_)
        obtain ⟨x_63, rfl, r_63, rfl, H⟩ := P_63
        dsimp only [rs]
        refine jz_callV2 (dk dt_X12_merge 40 rfl) vl_X12_933 rfl (T_X12_base (m_2.2.1.1 _ _) r_63 m_2 H) m_2.1.1 rfl (by decide) (Nat.zero_le _) (Nat.zero_le _) (Nat.le_of_ble_eq_true rfl) (fun v_66 h_66 P_66 => ?_)
        obtain ⟨x_66, u_66, rfl, r_66, m_66, H⟩ := P_66
        dsimp only [rs]
        refine j_istore_n (dk dt_X12_merge 41 rfl) (by decide) ?_
        refine j_iload_n (dk dt_X12_merge 42 rfl) rfl ?_
        refine j_iload_n (dk dt_X12_merge 43 rfl) rfl ?_
        refine jz_icmp_ne 77 (dk dt_X12_merge 44 rfl) (by decide) r_66 (m_2.2.1.1 _ _) H (fun H => ?_) (fun H => ?_)
        · refine j_iconst (v := Int32.ofInt (-1)) (dk dt_X12_merge 45 rfl) (by decide) ?_
          exact j_ireturn (dk dt_X12_merge 46 rfl) rfl rfl ⟨_, _, rfl, (by decide), m_66, H⟩
        · refine j_aload_n (dk dt_X12_merge 47 rfl) rfl ?_
          refine j_iload_n (dk dt_X12_merge 48 rfl) rfl ?_
          refine j_iload_n (dk dt_X12_merge 49 rfl) rfl ?_
          refine jz_callV2 (dk dt_X12_merge 50 rfl) vl_X12_936 rfl (T_X12_together (m_2.2.1.1 _ _) r_66 m_66 H) m_66.1.1 rfl (by decide) (Nat.zero_le _) (Nat.zero_le _) (Nat.le_of_ble_eq_true rfl) (fun v_80 h_80 P_80 => ?_)
          obtain ⟨x_80, u_80, rfl, r_80, m_80, H⟩ := P_80
          dsimp only [rs]
          refine j_istore (dk dt_X12_merge 51 rfl) (by decide) ?_
          refine j_iload (dk dt_X12_merge 52 rfl) rfl ?_
          refine jz_if_ge 96 (dk dt_X12_merge 53 rfl) (by decide) r_80 H (fun H => ?_) (fun H => ?_)
          · refine j_aload_n (dk dt_X12_merge 58 rfl) rfl ?_
            refine j_iload_n (dk dt_X12_merge 59 rfl) rfl ?_
            refine jm_putI (kz := 13) (dk dt_X12_merge 60 rfl) fl_X12_45 rfl rfl rfl rfl m_80 (m_2.2.1.1 _ _) (fun h_98 m_98 => ?_)
            replace H := H _ rfl
            refine j_iload (dk dt_X12_merge 61 rfl) rfl ?_
            exact j_ireturn (dk dt_X12_merge 62 rfl) rfl rfl ⟨_, _, rfl, r_80, m_98, H⟩
          · refine j_aload_n (dk dt_X12_merge 54 rfl) rfl ?_
            refine j_iconst (v := Int32.ofInt 4) (dk dt_X12_merge 55 rfl) (by decide) ?_
            refine jz_callV1 (dk dt_X12_merge 56 rfl) vl_X12_237 rfl (T_X12_throwing (by decide) m_80 H) m_80.1.1 rfl (by decide) (Nat.zero_le _) (Nat.zero_le _) (Nat.le_of_ble_eq_true rfl) (fun v_92 h_92 P_92 => ?_)
            obtain ⟨x_92, u_92, rfl, r_92, m_92, H⟩ := P_92
            dsimp only [rs]
            exact j_ireturn (dk dt_X12_merge 57 rfl) rfl rfl ⟨_, _, rfl, r_92, m_92, H⟩
      · refine j_aload_n (dk dt_X12_merge 25 rfl) rfl ?_
        refine j_aload_n (dk dt_X12_merge 26 rfl) rfl ?_
        refine j_iconst (v := Int32.ofInt 3) (dk dt_X12_merge 27 rfl) (by decide) ?_
        refine jz_callV1 (dk dt_X12_merge 28 rfl) vl_X12_930 rfl (T_X12_bars (by decide) m_2 H) m_2.1.1 rfl (by decide) (Nat.zero_le _) (Nat.zero_le _) (Nat.le_of_ble_eq_true rfl) (fun v_46 h_46 P_46 => ?_)
        obtain ⟨x_46, rfl, r_46, rfl, H⟩ := P_46
        dsimp only [rs]
        refine jz_callV1 (dk dt_X12_merge 29 rfl) vl_X12_237 rfl (T_X12_throwing r_46 m_2 H) m_2.1.1 rfl (by decide) (Nat.zero_le _) (Nat.zero_le _) (Nat.le_of_ble_eq_true rfl) (fun v_49 h_49 P_49 => ?_)
        obtain ⟨x_49, u_49, rfl, r_49, m_49, H⟩ := P_49
        dsimp only [rs]
        exact j_ireturn (dk dt_X12_merge 30 rfl) rfl rfl ⟨_, _, rfl, r_49, m_49, H⟩
    · refine j_aload_n (dk dt_X12_merge 17 rfl) rfl ?_
      refine j_iconst (v := Int32.ofInt 2) (dk dt_X12_merge 18 rfl) (by decide) ?_
      refine jz_callV1 (dk dt_X12_merge 19 rfl) vl_X12_237 rfl (T_X12_throwing (by decide) m_2 H) m_2.1.1 rfl (by decide) (Nat.zero_le _) (Nat.zero_le _) (Nat.le_of_ble_eq_true rfl) (fun v_31 h_31 P_31 => ?_)
      obtain ⟨x_31, u_31, rfl, r_31, m_31, H⟩ := P_31
      dsimp only [rs]
      exact j_ireturn (dk dt_X12_merge 20 rfl) rfl rfl ⟨_, _, rfl, r_31, m_31, H⟩
def F_X12_move_49  (u : Mu) (P : Int → Mu → Prop) : Prop :=
  F_X12_throwing 2 u (fun x_51 u_51 => P x_51 u_51)
theorem T_X12_move_49  {u : Mu} {P : Int → Mu → Prop} {h : Hp} {g : Nat → Nat}  (m : Ms h g u)   (H : F_X12_move_49 u P) : J mX12_move 3 0 0 (nx (QMI g P)) 49 [some (vr (some (g 0))), none, none, none, none, none, none, none] [] h := by
  unfold F_X12_move_49 at H
  refine j_aload_n (dk dt_X12_move 27 rfl) rfl ?_
  refine j_iconst (v := Int32.ofInt 2) (dk dt_X12_move 28 rfl) (by decide) ?_
  refine jz_callV1 (dk dt_X12_move 29 rfl) vl_X12_237 rfl (T_X12_throwing (by decide) m H) m.1.1 rfl (by decide) (Nat.zero_le _) (Nat.zero_le _) (Nat.le_of_ble_eq_true rfl) (fun v_51 h_51 P_51 => ?_)
  obtain ⟨x_51, u_51, rfl, r_51, m_51, H⟩ := P_51
  dsimp only [rs]
  exact j_ireturn (dk dt_X12_move 30 rfl) rfl rfl ⟨_, _, rfl, r_51, m_51, H⟩
def L_X12_move_76  (x1 : Int) (x2 : Int) (x3 : Int) (x5 : Int) (x6 : Int) (x7 : Int) (u : Mu) (P : (Int × Mu) ⊕ ((Mu)) → Prop) : Prop :=
  (if x7 = x3 then P (.inr u) else F_X12_comeLine x1 (w32 ((w32 (x7 + x6)) - 1)) x5 (w32 (x7 - 1)) u (fun u_97 => P (.inl (w32 (x7 + x6), u_97))))
theorem U_X12_move_76  {x1 : Int} {x2 : Int} {x3 : Int} {x5 : Int} {x6 : Int} {x7 : Int} {u : Mu} {P : (Int × Mu) ⊕ ((Mu)) → Prop} {h : Hp} {g : Nat → Nat} {post : Option Sv ⊕ String → Hp → Prop} (r_x1 : R32 x1) (r_x2 : R32 x2) (r_x3 : R32 x3) (r_x5 : R32 x5) (r_x6 : R32 x6) (r_x7 : R32 x7) (m : Ms h g u)  (hl : ∀ (x7 : Int) (u : Mu) (h : Hp), P (.inl (x7, u)) → Ms h g u → R32 x7 → J mX12_move 3 0 0 post 76 [some (vr (some (g 0))), some (ii (x1)), some (ii (x2)), some (ii (x3)), none, some (ii (x5)), some (ii (x6)), some (ii (x7))] [] h) (he0 : ∀ (u : Mu) (h : Hp), P (.inr u) → Ms h g u → J mX12_move 3 0 0 post 110 [some (vr (some (g 0))), some (ii (x1)), some (ii (x2)), some (ii (x3)), none, some (ii (x5)), some (ii (x6)), none] [] h) (H : L_X12_move_76 x1 x2 x3 x5 x6 x7 u P) : J mX12_move 3 0 0 post 76 [some (vr (some (g 0))), some (ii (x1)), some (ii (x2)), some (ii (x3)), none, some (ii (x5)), some (ii (x6)), some (ii (x7))] [] h := by
  unfold L_X12_move_76 at H
  refine j_iload (dk dt_X12_move 43 rfl) rfl ?_
  refine j_iload_n (dk dt_X12_move 44 rfl) rfl ?_
  refine jz_icmp_eq 110 (dk dt_X12_move 45 rfl) (by decide) r_x7 r_x3 H (fun H => ?_) (fun H => ?_)
  · exact j_el (he0 _ _ H m) (And.intro rfl (And.intro rfl (And.intro rfl (And.intro rfl (And.intro rfl (And.intro rfl trivial))))))
  · refine j_aload_n (dk dt_X12_move 46 rfl) rfl ?_
    refine j_iload_n (dk dt_X12_move 47 rfl) rfl ?_
    refine j_iload (dk dt_X12_move 48 rfl) rfl ?_
    refine j_iload (dk dt_X12_move 49 rfl) rfl ?_
    refine jz_iadd (dk dt_X12_move 50 rfl) ?_
    refine j_iconst (v := Int32.ofInt 1) (dk dt_X12_move 51 rfl) (by decide) ?_
    refine jz_isub (dk dt_X12_move 52 rfl) ?_
    refine j_iload (dk dt_X12_move 53 rfl) rfl ?_
    refine j_iload (dk dt_X12_move 54 rfl) rfl ?_
    refine j_iconst (v := Int32.ofInt 1) (dk dt_X12_move 55 rfl) (by decide) ?_
    refine jz_isub (dk dt_X12_move 56 rfl) ?_
    refine jz_callV4 (dk dt_X12_move 57 rfl) vl_X12_831 rfl (T_X12_comeLine r_x1 (r32_w _) r_x5 (r32_w _) m H) m.1.1 rfl (by decide) (Nat.zero_le _) (Nat.zero_le _) (Nat.le_of_ble_eq_true rfl) (fun v_97 h_97 P_97 => ?_)
    obtain ⟨u_97, rfl, m_97, H⟩ := P_97
    dsimp only [rs]
    refine j_iload (dk dt_X12_move 58 rfl) rfl ?_
    refine j_iload (dk dt_X12_move 59 rfl) rfl ?_
    refine jz_iadd (dk dt_X12_move 60 rfl) ?_
    refine j_istore (dk dt_X12_move 61 rfl) (by decide) ?_
    refine j_goto 76 (dk dt_X12_move 62 rfl) (by decide) ?_
    exact j_el (hl _ _ _ H m_97 (r32_w _)) (And.intro rfl (And.intro rfl (And.intro rfl (And.intro rfl (And.intro rfl (And.intro rfl (And.intro rfl trivial)))))))
def F_X12_move_140  (s0 : Int) (u : Mu) (P : Int → Mu → Prop) : Prop :=
  P s0 u
theorem T_X12_move_140  {s0 : Int} {u : Mu} {P : Int → Mu → Prop} {h : Hp} {g : Nat → Nat} (r_s0 : R32 s0) (m : Ms h g u)   (H : F_X12_move_140 s0 u P) : J mX12_move 3 0 0 (nx (QMI g P)) 140 [none, none, none, none, none, none, none, none] [ii (s0)] h := by
  unfold F_X12_move_140 at H
  exact j_ireturn (dk dt_X12_move 85 rfl) rfl rfl ⟨_, _, rfl, r_s0, m, H⟩
def F_X12_move_76  (x1 : Int) (x2 : Int) (x3 : Int) (x5 : Int) (x6 : Int) (x7 : Int) (u : Mu) (P : Int → Mu → Prop) : Prop :=
  lp (S := Int × Mu) (E := (Mu)) (fun q P_ => L_X12_move_76 x1 x2 x3 x5 x6 q.1 q.2 P_) (x7, u) (fun (u : Mu) => F_X12_comeLine x1 (w32 (x2 - 1)) x5 (w32 (x3 - 1)) u (fun u_120 => (if x2 = x3 then F_X12_move_140 0 u_120 P else F_X12_move_140 (w32 (w32 ((w32 (x3 - x2)) * x6) + 1)) u_120 P)))
theorem T_X12_move_76  {x1 : Int} {x2 : Int} {x3 : Int} {x5 : Int} {x6 : Int} {x7 : Int} {u : Mu} {P : Int → Mu → Prop} {h : Hp} {g : Nat → Nat} (r_x1 : R32 x1) (r_x2 : R32 x2) (r_x3 : R32 x3) (r_x5 : R32 x5) (r_x6 : R32 x6) (r_x7 : R32 x7) (m : Ms h g u)   (H : F_X12_move_76 x1 x2 x3 x5 x6 x7 u P) : J mX12_move 3 0 0 (nx (QMI g P)) 76 [some (vr (some (g 0))), some (ii (x1)), some (ii (x2)), some (ii (x3)), none, some (ii (x5)), some (ii (x6)), some (ii (x7))] [] h := by
  unfold F_X12_move_76 at H
  refine lp_J (G := fun q => ∀ h : Hp, Ms h g (q.2) → R32 (q.1) → J mX12_move 3 0 0 (nx (QMI g P)) 76 [some (vr (some (g 0))), some (ii (x1)), some (ii (x2)), some (ii (x3)), none, some (ii (x5)), some (ii (x6)), some (ii ((q.1)))] [] h) (fun q P_ hl_ he_ Hb => ?_) (x7, u) H _ m r_x7
  obtain ⟨x7, u⟩ := q
  intro h m r_x7
  refine U_X12_move_76 (P := P_) r_x1 r_x2 r_x3 r_x5 r_x6 r_x7 m  (fun x7 u h Hp m r_x7 => hl_ (x7, u) Hp h m r_x7) ?_ Hb
  · intro u h Hp m
    have H := he_ _ Hp
    refine j_aload_n (dk dt_X12_move 63 rfl) rfl ?_
    refine j_iload_n (dk dt_X12_move 64 rfl) rfl ?_
    refine j_iload_n (dk dt_X12_move 65 rfl) rfl ?_
    refine j_iconst (v := Int32.ofInt 1) (dk dt_X12_move 66 rfl) (by decide) ?_
    refine jz_isub (dk dt_X12_move 67 rfl) ?_
    refine j_iload (dk dt_X12_move 68 rfl) rfl ?_
    refine j_iload_n (dk dt_X12_move 69 rfl) rfl ?_
    refine j_iconst (v := Int32.ofInt 1) (dk dt_X12_move 70 rfl) (by decide) ?_
    refine jz_isub (dk dt_X12_move 71 rfl) ?_
    refine jz_callV4 (dk dt_X12_move 72 rfl) vl_X12_831 rfl (T_X12_comeLine r_x1 (r32_w _) r_x5 (r32_w _) m H) m.1.1 rfl (by decide) (Nat.zero_le _) (Nat.zero_le _) (Nat.le_of_ble_eq_true rfl) (fun v_120 h_120 P_120 => ?_)
    obtain ⟨u_120, rfl, m_120, H⟩ := P_120
    dsimp only [rs]
    refine j_iload_n (dk dt_X12_move 73 rfl) rfl ?_
    refine j_iload_n (dk dt_X12_move 74 rfl) rfl ?_
    refine jz_icmp_ne 132 (dk dt_X12_move 75 rfl) (by decide) r_x2 r_x3 H (fun H => ?_) (fun H => ?_)
    · refine j_iconst (v := Int32.ofInt 0) (dk dt_X12_move 76 rfl) (by decide) ?_
      refine j_goto 140 (dk dt_X12_move 77 rfl) (by decide) ?_
      exact j_el (T_X12_move_140 (by decide) m_120   H) trivial
    · refine j_iload_n (dk dt_X12_move 78 rfl) rfl ?_
      refine j_iload_n (dk dt_X12_move 79 rfl) rfl ?_
      refine jz_isub (dk dt_X12_move 80 rfl) ?_
      refine j_iload (dk dt_X12_move 81 rfl) rfl ?_
      refine jz_imul (dk dt_X12_move 82 rfl) ?_
      refine j_iconst (v := Int32.ofInt 1) (dk dt_X12_move 83 rfl) (by decide) ?_
      refine jz_iadd (dk dt_X12_move 84 rfl) ?_
      exact j_el (T_X12_move_140 (r32_w _) m_120   H) trivial
def F_X12_move_71  (x1 : Int) (x2 : Int) (x3 : Int) (x5 : Int) (s0 : Int) (u : Mu) (P : Int → Mu → Prop) : Prop :=
  F_X12_move_76 x1 x2 x3 x5 s0 x2 u P
theorem T_X12_move_71  {x1 : Int} {x2 : Int} {x3 : Int} {x5 : Int} {s0 : Int} {u : Mu} {P : Int → Mu → Prop} {h : Hp} {g : Nat → Nat} (r_x1 : R32 x1) (r_x2 : R32 x2) (r_x3 : R32 x3) (r_x5 : R32 x5) (r_s0 : R32 s0) (m : Ms h g u)   (H : F_X12_move_71 x1 x2 x3 x5 s0 u P) : J mX12_move 3 0 0 (nx (QMI g P)) 71 [some (vr (some (g 0))), some (ii (x1)), some (ii (x2)), some (ii (x3)), none, some (ii (x5)), none, none] [ii (s0)] h := by
  unfold F_X12_move_71 at H
  refine j_istore (dk dt_X12_move 40 rfl) (by decide) ?_
  refine j_iload_n (dk dt_X12_move 41 rfl) rfl ?_
  refine j_istore (dk dt_X12_move 42 rfl) (by decide) ?_
  exact j_el (T_X12_move_76 r_x1 r_x2 r_x3 r_x5 r_s0 r_x2 m   H) (And.intro rfl (And.intro rfl (And.intro rfl (And.intro rfl (And.intro rfl (And.intro rfl (And.intro rfl trivial)))))))
def F_X12_move  (x1 : Int) (x2 : Int) (x3 : Int) (u : Mu) (P : Int → Mu → Prop) : Prop :=
  (∀ u_2, u_2 = uI u 0 0 0 → F_X12_in x1 0 1 (fun x_8 => (if x_8 = 0 then F_X12_throwing 1 u_2 (fun x_16 u_16 => P x_16 u_16) else F_X12_linesOf 40 x1 u_2 (fun x_24 => F_X12_in x2 1 x_24 (fun x_33 => (if x_33 = 0 then F_X12_move_49 u_2 P else F_X12_in x3 1 x_24 (fun x_43 => (if x_43 = 0 then F_X12_move_49 u_2 P else F_X12_step u_2 (fun x_56 u_56 => (if x3 ≤ x2 then F_X12_move_71 x1 x2 x3 x_56 (-1) u_56 P else F_X12_move_71 x1 x2 x3 x_56 1 u_56 P))))))))))
theorem T_X12_move  {x1 : Int} {x2 : Int} {x3 : Int} {u : Mu} {P : Int → Mu → Prop} {h : Hp} {g : Nat → Nat} (r_x1 : R32 x1) (r_x2 : R32 x2) (r_x3 : R32 x3) (m : Ms h g u)  (H : F_X12_move x1 x2 x3 u P) : Con mX12_move 3 0 0 [vr (some (g 0)), ii (x1), ii (x2), ii (x3)] h (QMI g P) := by
  refine con_of rfl (Nat.le_of_ble_eq_true rfl) (by decide) ?_
  show J mX12_move 3 0 0 _ 0 [some (vr (some (g 0))), some (ii (x1)), some (ii (x2)), some (ii (x3)), none, none, none, none] [] h
  unfold F_X12_move at H
  refine j_aload_n (dk dt_X12_move 0 rfl) rfl ?_
  refine j_iconst (v := Int32.ofInt 0) (dk dt_X12_move 1 rfl) (by decide) ?_
  refine jm_putI (kz := 0) (dk dt_X12_move 2 rfl) fl_X12_202 rfl rfl rfl rfl m (by decide) (fun h_2 m_2 => ?_)
  replace H := H _ rfl
  refine j_iload_n (dk dt_X12_move 3 rfl) rfl ?_
  refine j_iconst (v := Int32.ofInt 0) (dk dt_X12_move 4 rfl) (by decide) ?_
  refine j_iconst (v := Int32.ofInt 1) (dk dt_X12_move 5 rfl) (by decide) ?_
  refine j_callS3 (dk dt_X12_move 6 rfl) sl_X12_220 (T_X12_in r_x1 (by decide) (by decide) H) rfl (by decide) (Nat.zero_le _) (Nat.zero_le _) (Nat.le_of_ble_eq_true rfl) (fun v_8 h_8 P_8 => ?_)
  obtain ⟨x_8, rfl, r_8, rfl, H⟩ := P_8
  dsimp only [rs]
  refine jz_if_ne 20 (dk dt_X12_move 7 rfl) (by decide) r_8 H (fun H => ?_) (fun H => ?_)
  · refine j_aload_n (dk dt_X12_move 8 rfl) rfl ?_
    refine j_iconst (v := Int32.ofInt 1) (dk dt_X12_move 9 rfl) (by decide) ?_
    refine jz_callV1 (dk dt_X12_move 10 rfl) vl_X12_237 rfl (T_X12_throwing (by decide) m_2 H) m_2.1.1 rfl (by decide) (Nat.zero_le _) (Nat.zero_le _) (Nat.le_of_ble_eq_true rfl) (fun v_16 h_16 P_16 => ?_)
    obtain ⟨x_16, u_16, rfl, r_16, m_16, H⟩ := P_16
    dsimp only [rs]
    exact j_ireturn (dk dt_X12_move 11 rfl) rfl rfl ⟨_, _, rfl, r_16, m_16, H⟩
  · refine j_aload_n (dk dt_X12_move 12 rfl) rfl ?_
    refine j_bipush (v := Int32.ofInt 40) (dk dt_X12_move 13 rfl) (by decide) ?_
    refine j_iload_n (dk dt_X12_move 14 rfl) rfl ?_
    refine jz_callV2 (dk dt_X12_move 15 rfl) vl_X12_209 rfl (T_X12_linesOf (by decide) r_x1 m_2 H) m_2.1.1 rfl (by decide) (Nat.zero_le _) (Nat.zero_le _) (Nat.le_of_ble_eq_true rfl) (fun v_24 h_24 P_24 => ?_)
    obtain ⟨x_24, rfl, r_24, rfl, H⟩ := P_24
    dsimp only [rs]
    refine j_istore (dk dt_X12_move 16 rfl) (by decide) ?_
    refine j_iload_n (dk dt_X12_move 17 rfl) rfl ?_
    refine j_iconst (v := Int32.ofInt 1) (dk dt_X12_move 18 rfl) (by decide) ?_
    refine j_iload (dk dt_X12_move 19 rfl) rfl ?_
    refine j_callS3 (dk dt_X12_move 20 rfl) sl_X12_220 (T_X12_in r_x2 (by decide) r_24 H) rfl (by decide) (Nat.zero_le _) (Nat.zero_le _) (Nat.le_of_ble_eq_true rfl) (fun v_33 h_33 P_33 => ?_)
    obtain ⟨x_33, rfl, r_33, rfl, H⟩ := P_33
    dsimp only [rs]
    refine jz_if_eq 49 (dk dt_X12_move 21 rfl) (by decide) r_33 H (fun H => ?_) (fun H => ?_)
    · exact j_el (T_X12_move_49  m_2   H) (And.intro rfl trivial)
    · refine j_iload_n (dk dt_X12_move 22 rfl) rfl ?_
      refine j_iconst (v := Int32.ofInt 1) (dk dt_X12_move 23 rfl) (by decide) ?_
      refine j_iload (dk dt_X12_move 24 rfl) rfl ?_
      refine j_callS3 (dk dt_X12_move 25 rfl) sl_X12_220 (T_X12_in r_x3 (by decide) r_24 H) rfl (by decide) (Nat.zero_le _) (Nat.zero_le _) (Nat.le_of_ble_eq_true rfl) (fun v_43 h_43 P_43 => ?_)
      obtain ⟨x_43, rfl, r_43, rfl, H⟩ := P_43
      dsimp only [rs]
      refine jz_if_ne 55 (dk dt_X12_move 26 rfl) (by decide) r_43 H (fun H => ?_) (fun H => ?_)
      · exact j_el (T_X12_move_49  m_2   H) (And.intro rfl trivial)
      · refine j_aload_n (dk dt_X12_move 31 rfl) rfl ?_
        refine jz_callV0 (dk dt_X12_move 32 rfl) vl_X12_340 rfl (T_X12_step m_2 H) m_2.1.1 rfl (by decide) (Nat.zero_le _) (Nat.zero_le _) (Nat.le_of_ble_eq_true rfl) (fun v_56 h_56 P_56 => ?_)
        obtain ⟨x_56, u_56, rfl, r_56, m_56, H⟩ := P_56
        dsimp only [rs]
        refine j_istore (dk dt_X12_move 33 rfl) (by decide) ?_
        refine j_iload_n (dk dt_X12_move 34 rfl) rfl ?_
        refine j_iload_n (dk dt_X12_move 35 rfl) rfl ?_
        refine jz_icmp_le 70 (dk dt_X12_move 36 rfl) (by decide) r_x3 r_x2 H (fun H => ?_) (fun H => ?_)
        · refine j_iconst (v := Int32.ofInt (-1)) (dk dt_X12_move 39 rfl) (by decide) ?_
          exact j_el (T_X12_move_71 r_x1 r_x2 r_x3 r_56 (by decide) m_56   H) (And.intro rfl (And.intro rfl (And.intro rfl (And.intro rfl (And.intro rfl trivial)))))
        · refine j_iconst (v := Int32.ofInt 1) (dk dt_X12_move 37 rfl) (by decide) ?_
          refine j_goto 71 (dk dt_X12_move 38 rfl) (by decide) ?_
          exact j_el (T_X12_move_71 r_x1 r_x2 r_x3 r_56 (by decide) m_56   H) (And.intro rfl (And.intro rfl (And.intro rfl (And.intro rfl (And.intro rfl trivial)))))
def F_X12_needsMark_52  (u : Mu) (P : Int → Prop) : Prop :=
  P 1
theorem T_X12_needsMark_52  {u : Mu} {P : Int → Prop} {h : Hp} {g : Nat → Nat}  (m : Ms h g u)   (H : F_X12_needsMark_52 u P) : J mX12_needsMark 8 0 0 (nx (QPI h P)) 52 [none, none, none, none, none, none] [] h := by
  unfold F_X12_needsMark_52 at H
  refine j_iconst (v := Int32.ofInt 1) (dk dt_X12_needsMark 30 rfl) (by decide) ?_
  exact j_ireturn (dk dt_X12_needsMark 31 rfl) rfl (nar_z (by decide)) ⟨_, rfl, (by decide), rfl, H⟩
def L_X12_needsMark_111  (x1 : Int) (x2 : Int) (x4 : Int) (x5 : Int) (u : Mu) (P : (Int × Int) ⊕ ((Int)) → Prop) : Prop :=
  (if x2 ≤ x5 then P (.inr x4) else (if x4 = 0 then P (.inr x4) else (0 ≤ w32 (x1 + x5) ∧ w32 (x1 + x5) < 82400 ∧ F_X12_isDigit (mI u 18 (w32 (x1 + x5))) (fun x_131 => P (.inl (x_131, w32 (x5 + 1)))))))
theorem U_X12_needsMark_111  {x1 : Int} {x2 : Int} {x4 : Int} {x5 : Int} {u : Mu} {P : (Int × Int) ⊕ ((Int)) → Prop} {h : Hp} {g : Nat → Nat} {post : Option Sv ⊕ String → Hp → Prop} (r_x1 : R32 x1) (r_x2 : R32 x2) (r_x4 : R32 x4) (r_x5 : R32 x5) (m : Ms h g u)  (hl : ∀ (x4 : Int) (x5 : Int), P (.inl (x4, x5)) → R32 x4 → R32 x5 → J mX12_needsMark 8 0 0 post 111 [some (vr (some (g 0))), some (ii (x1)), some (ii (x2)), none, some (ii (x4)), some (ii (x5))] [] h) (he0 : ∀ (x4 : Int), P (.inr x4) → R32 x4 → J mX12_needsMark 8 0 0 post 142 [none, none, none, none, some (ii (x4)), none] [] h) (H : L_X12_needsMark_111 x1 x2 x4 x5 u P) : J mX12_needsMark 8 0 0 post 111 [some (vr (some (g 0))), some (ii (x1)), some (ii (x2)), none, some (ii (x4)), some (ii (x5))] [] h := by
  unfold L_X12_needsMark_111 at H
  refine j_iload (dk dt_X12_needsMark 65 rfl) rfl ?_
  refine j_iload_n (dk dt_X12_needsMark 66 rfl) rfl ?_
  refine jz_icmp_ge 142 (dk dt_X12_needsMark 67 rfl) (by decide) r_x5 r_x2 H (fun H => ?_) (fun H => ?_)
  · exact j_el (he0 _ H r_x4) (And.intro rfl trivial)
  · refine j_iload (dk dt_X12_needsMark 68 rfl) rfl ?_
    refine jz_if_eq 142 (dk dt_X12_needsMark 69 rfl) (by decide) r_x4 H (fun H => ?_) (fun H => ?_)
    · exact j_el (he0 _ H r_x4) (And.intro rfl trivial)
    · refine j_aload_n (dk dt_X12_needsMark 70 rfl) rfl ?_
      refine jm_getA (dk dt_X12_needsMark 71 rfl) fl_X12_49 rfl (c := 13) rfl m ?_
      refine j_iload_n (dk dt_X12_needsMark 72 rfl) rfl ?_
      refine j_iload (dk dt_X12_needsMark 73 rfl) rfl ?_
      refine jz_iadd (dk dt_X12_needsMark 74 rfl) ?_
      obtain ⟨p_130, q_130, H⟩ := H
      refine jm_bald (dk dt_X12_needsMark 75 rfl) rfl rfl m p_130 q_130 ?_
      refine j_callS1 (dk dt_X12_needsMark 76 rfl) sl_X12_283 (T_X12_isDigit (m.2.1.1 _ _) H) rfl (by decide) (Nat.zero_le _) (Nat.zero_le _) (Nat.le_of_ble_eq_true rfl) (fun v_131 h_131 P_131 => ?_)
      obtain ⟨x_131, rfl, r_131, rfl, H⟩ := P_131
      dsimp only [rs]
      refine j_istore (dk dt_X12_needsMark 77 rfl) (by decide) ?_
      refine jz_iinc (dk dt_X12_needsMark 78 rfl) rfl ?_
      refine j_goto 111 (dk dt_X12_needsMark 79 rfl) (by decide) ?_
      exact j_el (hl _ _ H r_131 (r32_w _)) (And.intro rfl (And.intro rfl (And.intro rfl (And.intro rfl (And.intro rfl trivial)))))
def F_X12_needsMark_142  (x4 : Int) (u : Mu) (P : Int → Prop) : Prop :=
  (Z1 x4 ∧ P x4)
theorem T_X12_needsMark_142  {x4 : Int} {u : Mu} {P : Int → Prop} {h : Hp} {g : Nat → Nat} (r_x4 : R32 x4) (m : Ms h g u)   (H : F_X12_needsMark_142 x4 u P) : J mX12_needsMark 8 0 0 (nx (QPI h P)) 142 [none, none, none, none, some (ii (x4)), none] [] h := by
  unfold F_X12_needsMark_142 at H
  refine j_iload (dk dt_X12_needsMark 80 rfl) rfl ?_
  obtain ⟨hz_, H⟩ := H
  exact j_ireturn (dk dt_X12_needsMark 81 rfl) rfl (nar_z hz_) ⟨_, rfl, r_x4, rfl, H⟩
def F_X12_needsMark_111  (x1 : Int) (x2 : Int) (x4 : Int) (x5 : Int) (u : Mu) (P : Int → Prop) : Prop :=
  lp (S := Int × Int) (E := (Int)) (fun q P_ => L_X12_needsMark_111 x1 x2 q.1 q.2 u P_) (x4, x5) (fun (x4 : Int) => F_X12_needsMark_142 x4 u P)
theorem T_X12_needsMark_111  {x1 : Int} {x2 : Int} {x4 : Int} {x5 : Int} {u : Mu} {P : Int → Prop} {h : Hp} {g : Nat → Nat} (r_x1 : R32 x1) (r_x2 : R32 x2) (r_x4 : R32 x4) (r_x5 : R32 x5) (m : Ms h g u)   (H : F_X12_needsMark_111 x1 x2 x4 x5 u P) : J mX12_needsMark 8 0 0 (nx (QPI h P)) 111 [some (vr (some (g 0))), some (ii (x1)), some (ii (x2)), none, some (ii (x4)), some (ii (x5))] [] h := by
  unfold F_X12_needsMark_111 at H
  refine lp_J (G := fun q => R32 (q.1) → R32 (q.2) → J mX12_needsMark 8 0 0 (nx (QPI h P)) 111 [some (vr (some (g 0))), some (ii (x1)), some (ii (x2)), none, some (ii ((q.1))), some (ii ((q.2)))] [] h) (fun q P_ hl_ he_ Hb => ?_) (x4, x5) H r_x4 r_x5
  obtain ⟨x4, x5⟩ := q
  intro r_x4 r_x5
  refine U_X12_needsMark_111 (P := P_) r_x1 r_x2 r_x4 r_x5 m  (fun x4 x5 Hp r_x4 r_x5 => hl_ (x4, x5) Hp r_x4 r_x5) ?_ Hb
  · intro x4 Hp r_x4
    have H := he_ _ Hp
    exact j_el (T_X12_needsMark_142 r_x4 m   H) (And.intro rfl trivial)
def F_X12_needsMark_96  (x1 : Int) (x2 : Int) (s0 : Int) (u : Mu) (P : Int → Prop) : Prop :=
  F_X12_in (w32 (x2 - s0)) 1 15 (fun x_103 => F_X12_needsMark_111 x1 x2 x_103 s0 u P)
theorem T_X12_needsMark_96  {x1 : Int} {x2 : Int} {s0 : Int} {u : Mu} {P : Int → Prop} {h : Hp} {g : Nat → Nat} (r_x1 : R32 x1) (r_x2 : R32 x2) (r_s0 : R32 s0) (m : Ms h g u)   (H : F_X12_needsMark_96 x1 x2 s0 u P) : J mX12_needsMark 8 0 0 (nx (QPI h P)) 96 [some (vr (some (g 0))), some (ii (x1)), some (ii (x2)), none, none, none] [ii (s0)] h := by
  unfold F_X12_needsMark_96 at H
  refine j_istore_n (dk dt_X12_needsMark 55 rfl) (by decide) ?_
  refine j_iload_n (dk dt_X12_needsMark 56 rfl) rfl ?_
  refine j_iload_n (dk dt_X12_needsMark 57 rfl) rfl ?_
  refine jz_isub (dk dt_X12_needsMark 58 rfl) ?_
  refine j_iconst (v := Int32.ofInt 1) (dk dt_X12_needsMark 59 rfl) (by decide) ?_
  refine j_bipush (v := Int32.ofInt 15) (dk dt_X12_needsMark 60 rfl) (by decide) ?_
  refine j_callS3 (dk dt_X12_needsMark 61 rfl) sl_X12_220 (T_X12_in (r32_w _) (by decide) (by decide) H) rfl (by decide) (Nat.zero_le _) (Nat.zero_le _) (Nat.le_of_ble_eq_true rfl) (fun v_103 h_103 P_103 => ?_)
  obtain ⟨x_103, rfl, r_103, rfl, H⟩ := P_103
  dsimp only [rs]
  refine j_istore (dk dt_X12_needsMark 62 rfl) (by decide) ?_
  refine j_iload_n (dk dt_X12_needsMark 63 rfl) rfl ?_
  refine j_istore (dk dt_X12_needsMark 64 rfl) (by decide) ?_
  exact j_el (T_X12_needsMark_111 r_x1 r_x2 r_103 r_s0 m   H) (And.intro rfl (And.intro rfl (And.intro rfl (And.intro rfl (And.intro rfl trivial)))))
def F_X12_needsMark_78  (u : Mu) (P : Int → Prop) : Prop :=
  P 1
theorem T_X12_needsMark_78  {u : Mu} {P : Int → Prop} {h : Hp} {g : Nat → Nat}  (m : Ms h g u)   (H : F_X12_needsMark_78 u P) : J mX12_needsMark 8 0 0 (nx (QPI h P)) 78 [none, none, none, none, none, none] [] h := by
  unfold F_X12_needsMark_78 at H
  refine j_iconst (v := Int32.ofInt 1) (dk dt_X12_needsMark 44 rfl) (by decide) ?_
  exact j_ireturn (dk dt_X12_needsMark 45 rfl) rfl (nar_z (by decide)) ⟨_, rfl, (by decide), rfl, H⟩
def F_X12_needsMark  (x1 : Int) (x2 : Int) (u : Mu) (P : Int → Prop) : Prop :=
  (if x2 = 0 then F_X12_needsMark_52 u P else (0 ≤ x1 ∧ x1 < 82400 ∧ (if mI u 18 x1 = 32 then F_X12_needsMark_52 u P else (0 ≤ w32 ((w32 (x1 + x2)) - 1) ∧ w32 ((w32 (x1 + x2)) - 1) < 82400 ∧ (if mI u 18 (w32 ((w32 (x1 + x2)) - 1)) = 32 then F_X12_needsMark_52 u P else (if mI u 18 x1 = 61 then F_X12_needsMark_52 u P else (if mI u 18 x1 = 39 then F_X12_needsMark_52 u P else F_X12_isLetters x1 x2 11 u (fun x_60 => (if x_60 = 0 then F_X12_isLetters x1 x2 12 u (fun x_72 => (if x_72 = 0 then (if mI u 18 x1 = 45 then F_X12_needsMark_96 x1 x2 1 u P else F_X12_needsMark_96 x1 x2 0 u P) else F_X12_needsMark_78 u P)) else F_X12_needsMark_78 u P)))))))))
theorem T_X12_needsMark  {x1 : Int} {x2 : Int} {u : Mu} {P : Int → Prop} {h : Hp} {g : Nat → Nat} (r_x1 : R32 x1) (r_x2 : R32 x2) (m : Ms h g u)  (H : F_X12_needsMark x1 x2 u P) : Con mX12_needsMark 8 0 0 [vr (some (g 0)), ii (x1), ii (x2)] h (QPI h P) := by
  refine con_of rfl (Nat.le_of_ble_eq_true rfl) (by decide) ?_
  show J mX12_needsMark 8 0 0 _ 0 [some (vr (some (g 0))), some (ii (x1)), some (ii (x2)), none, none, none] [] h
  unfold F_X12_needsMark at H
  refine j_iload_n (dk dt_X12_needsMark 0 rfl) rfl ?_
  refine jz_if_eq 52 (dk dt_X12_needsMark 1 rfl) (by decide) r_x2 H (fun H => ?_) (fun H => ?_)
  · exact j_el (T_X12_needsMark_52  m   H) trivial
  · refine j_aload_n (dk dt_X12_needsMark 2 rfl) rfl ?_
    refine jm_getA (dk dt_X12_needsMark 3 rfl) fl_X12_49 rfl (c := 13) rfl m ?_
    refine j_iload_n (dk dt_X12_needsMark 4 rfl) rfl ?_
    obtain ⟨p_9, q_9, H⟩ := H
    refine jm_bald (dk dt_X12_needsMark 5 rfl) rfl rfl m p_9 q_9 ?_
    refine j_bipush (v := Int32.ofInt 32) (dk dt_X12_needsMark 6 rfl) (by decide) ?_
    refine jz_icmp_eq 52 (dk dt_X12_needsMark 7 rfl) (by decide) (m.2.1.1 _ _) (by decide) H (fun H => ?_) (fun H => ?_)
    · exact j_el (T_X12_needsMark_52  m   H) trivial
    · refine j_aload_n (dk dt_X12_needsMark 8 rfl) rfl ?_
      refine jm_getA (dk dt_X12_needsMark 9 rfl) fl_X12_49 rfl (c := 13) rfl m ?_
      refine j_iload_n (dk dt_X12_needsMark 10 rfl) rfl ?_
      refine j_iload_n (dk dt_X12_needsMark 11 rfl) rfl ?_
      refine jz_iadd (dk dt_X12_needsMark 12 rfl) ?_
      refine j_iconst (v := Int32.ofInt 1) (dk dt_X12_needsMark 13 rfl) (by decide) ?_
      refine jz_isub (dk dt_X12_needsMark 14 rfl) ?_
      obtain ⟨p_24, q_24, H⟩ := H
      refine jm_bald (dk dt_X12_needsMark 15 rfl) rfl rfl m p_24 q_24 ?_
      refine j_bipush (v := Int32.ofInt 32) (dk dt_X12_needsMark 16 rfl) (by decide) ?_
      refine jz_icmp_eq 52 (dk dt_X12_needsMark 17 rfl) (by decide) (m.2.1.1 _ _) (by decide) H (fun H => ?_) (fun H => ?_)
      · exact j_el (T_X12_needsMark_52  m   H) trivial
      · refine j_aload_n (dk dt_X12_needsMark 18 rfl) rfl ?_
        refine jm_getA (dk dt_X12_needsMark 19 rfl) fl_X12_49 rfl (c := 13) rfl m ?_
        refine j_iload_n (dk dt_X12_needsMark 20 rfl) rfl ?_
        refine jm_bald (dk dt_X12_needsMark 21 rfl) rfl rfl m p_9 q_9 ?_
        refine j_bipush (v := Int32.ofInt 61) (dk dt_X12_needsMark 22 rfl) (by decide) ?_
        refine jz_icmp_eq 52 (dk dt_X12_needsMark 23 rfl) (by decide) (m.2.1.1 _ _) (by decide) H (fun H => ?_) (fun H => ?_)
        · exact j_el (T_X12_needsMark_52  m   H) trivial
        · refine j_aload_n (dk dt_X12_needsMark 24 rfl) rfl ?_
          refine jm_getA (dk dt_X12_needsMark 25 rfl) fl_X12_49 rfl (c := 13) rfl m ?_
          refine j_iload_n (dk dt_X12_needsMark 26 rfl) rfl ?_
          refine jm_bald (dk dt_X12_needsMark 27 rfl) rfl rfl m p_9 q_9 ?_
          refine j_bipush (v := Int32.ofInt 39) (dk dt_X12_needsMark 28 rfl) (by decide) ?_
          refine jz_icmp_ne 54 (dk dt_X12_needsMark 29 rfl) (by decide) (m.2.1.1 _ _) (by decide) H (fun H => ?_) (fun H => ?_)
          · exact j_el (T_X12_needsMark_52  m   H) trivial
          · refine j_aload_n (dk dt_X12_needsMark 32 rfl) rfl ?_
            refine j_iload_n (dk dt_X12_needsMark 33 rfl) rfl ?_
            refine j_iload_n (dk dt_X12_needsMark 34 rfl) rfl ?_
            refine j_ldcwS 11 rfl (dk dt_X12_needsMark 35 rfl) rfl rfl ?_
            refine jz_callV3 (dk dt_X12_needsMark 36 rfl) vl_X12_752 rfl (T_X12_isLetters r_x1 r_x2 m H) m.1.1 rfl (by decide) (Nat.zero_le _) (Nat.zero_le _) (Nat.le_of_ble_eq_true rfl) (fun v_60 h_60 P_60 => ?_)
            obtain ⟨x_60, rfl, r_60, rfl, H⟩ := P_60
            dsimp only [rs]
            refine jz_if_ne 78 (dk dt_X12_needsMark 37 rfl) (by decide) r_60 H (fun H => ?_) (fun H => ?_)
            · refine j_aload_n (dk dt_X12_needsMark 38 rfl) rfl ?_
              refine j_iload_n (dk dt_X12_needsMark 39 rfl) rfl ?_
              refine j_iload_n (dk dt_X12_needsMark 40 rfl) rfl ?_
              refine j_ldcwS 12 rfl (dk dt_X12_needsMark 41 rfl) rfl rfl ?_
              refine jz_callV3 (dk dt_X12_needsMark 42 rfl) vl_X12_752 rfl (T_X12_isLetters r_x1 r_x2 m H) m.1.1 rfl (by decide) (Nat.zero_le _) (Nat.zero_le _) (Nat.le_of_ble_eq_true rfl) (fun v_72 h_72 P_72 => ?_)
              obtain ⟨x_72, rfl, r_72, rfl, H⟩ := P_72
              dsimp only [rs]
              refine jz_if_eq 80 (dk dt_X12_needsMark 43 rfl) (by decide) r_72 H (fun H => ?_) (fun H => ?_)
              · refine j_aload_n (dk dt_X12_needsMark 46 rfl) rfl ?_
                refine jm_getA (dk dt_X12_needsMark 47 rfl) fl_X12_49 rfl (c := 13) rfl m ?_
                refine j_iload_n (dk dt_X12_needsMark 48 rfl) rfl ?_
                refine jm_bald (dk dt_X12_needsMark 49 rfl) rfl rfl m p_9 q_9 ?_
                refine j_bipush (v := Int32.ofInt 45) (dk dt_X12_needsMark 50 rfl) (by decide) ?_
                refine jz_icmp_ne 95 (dk dt_X12_needsMark 51 rfl) (by decide) (m.2.1.1 _ _) (by decide) H (fun H => ?_) (fun H => ?_)
                · refine j_iconst (v := Int32.ofInt 1) (dk dt_X12_needsMark 52 rfl) (by decide) ?_
                  refine j_goto 96 (dk dt_X12_needsMark 53 rfl) (by decide) ?_
                  exact j_el (T_X12_needsMark_96 r_x1 r_x2 (by decide) m   H) (And.intro rfl (And.intro rfl (And.intro rfl trivial)))
                · refine j_iconst (v := Int32.ofInt 0) (dk dt_X12_needsMark 54 rfl) (by decide) ?_
                  exact j_el (T_X12_needsMark_96 r_x1 r_x2 (by decide) m   H) (And.intro rfl (And.intro rfl (And.intro rfl trivial)))
              · exact j_el (T_X12_needsMark_78  m   H) trivial
            · exact j_el (T_X12_needsMark_78  m   H) trivial
def F_X12_pick_68  (s0 : Int) (u : Mu) (P : Int → Mu → Prop) : Prop :=
  P s0 u
theorem T_X12_pick_68  {s0 : Int} {u : Mu} {P : Int → Mu → Prop} {h : Hp} {g : Nat → Nat} (r_s0 : R32 s0) (m : Ms h g u)   (H : F_X12_pick_68 s0 u P) : J mX12_pick 9 0 0 (nx (QMI g P)) 68 [none, none, none] [ii (s0)] h := by
  unfold F_X12_pick_68 at H
  exact j_ireturn (dk dt_X12_pick 40 rfl) rfl rfl ⟨_, _, rfl, r_s0, m, H⟩
def F_X12_pick  (x1 : Int) (u : Mu) (P : Int → Mu → Prop) : Prop :=
  (∀ u_2, u_2 = uI u 0 0 0 → F_X12_in x1 1 (w32 ((mI u_2 0 8) - 1)) (fun x_13 => (if x_13 = 0 then F_X12_throwing 1 u_2 (fun x_21 u_21 => P x_21 u_21) else F_X12_bars 2 u_2 (fun x_27 => (if x_27 ≤ 0 then (0 ≤ x1 ∧ x1 < 40 ∧ F_X12_together x1 (mI u_2 9 x1) u_2 (fun x_51 u_51 => (if 0 ≤ x_51 then F_X12_pick_68 x_51 u_51 P else F_X12_throwing 3 u_51 (fun x_61 u_61 => F_X12_pick_68 x_61 u_61 P)))) else F_X12_bars 2 u_2 (fun x_36 => F_X12_throwing x_36 u_2 (fun x_39 u_39 => P x_39 u_39)))))))
theorem T_X12_pick  {x1 : Int} {u : Mu} {P : Int → Mu → Prop} {h : Hp} {g : Nat → Nat} (r_x1 : R32 x1) (m : Ms h g u)  (H : F_X12_pick x1 u P) : Con mX12_pick 9 0 0 [vr (some (g 0)), ii (x1)] h (QMI g P) := by
  refine con_of rfl (Nat.le_of_ble_eq_true rfl) (by decide) ?_
  show J mX12_pick 9 0 0 _ 0 [some (vr (some (g 0))), some (ii (x1)), none] [] h
  unfold F_X12_pick at H
  refine j_aload_n (dk dt_X12_pick 0 rfl) rfl ?_
  refine j_iconst (v := Int32.ofInt 0) (dk dt_X12_pick 1 rfl) (by decide) ?_
  refine jm_putI (kz := 0) (dk dt_X12_pick 2 rfl) fl_X12_202 rfl rfl rfl rfl m (by decide) (fun h_2 m_2 => ?_)
  replace H := H _ rfl
  refine j_iload_n (dk dt_X12_pick 3 rfl) rfl ?_
  refine j_iconst (v := Int32.ofInt 1) (dk dt_X12_pick 4 rfl) (by decide) ?_
  refine j_aload_n (dk dt_X12_pick 5 rfl) rfl ?_
  refine jm_getI (kz := 8) (dk dt_X12_pick 6 rfl) fl_X12_33 rfl rfl m_2 ?_
  refine j_iconst (v := Int32.ofInt 1) (dk dt_X12_pick 7 rfl) (by decide) ?_
  refine jz_isub (dk dt_X12_pick 8 rfl) ?_
  refine j_callS3 (dk dt_X12_pick 9 rfl) sl_X12_220 (T_X12_in r_x1 (by decide) (r32_w _) H) rfl (by decide) (Nat.zero_le _) (Nat.zero_le _) (Nat.le_of_ble_eq_true rfl) (fun v_13 h_13 P_13 => ?_)
  obtain ⟨x_13, rfl, r_13, rfl, H⟩ := P_13
  dsimp only [rs]
  refine jz_if_ne 25 (dk dt_X12_pick 10 rfl) (by decide) r_13 H (fun H => ?_) (fun H => ?_)
  · refine j_aload_n (dk dt_X12_pick 11 rfl) rfl ?_
    refine j_iconst (v := Int32.ofInt 1) (dk dt_X12_pick 12 rfl) (by decide) ?_
    refine jz_callV1 (dk dt_X12_pick 13 rfl) vl_X12_237 rfl (T_X12_throwing (by decide) m_2 H) m_2.1.1 rfl (by decide) (Nat.zero_le _) (Nat.zero_le _) (Nat.le_of_ble_eq_true rfl) (fun v_21 h_21 P_21 => ?_)
    obtain ⟨x_21, u_21, rfl, r_21, m_21, H⟩ := P_21
    dsimp only [rs]
    exact j_ireturn (dk dt_X12_pick 14 rfl) rfl rfl ⟨_, _, rfl, r_21, m_21, H⟩
  · refine j_aload_n (dk dt_X12_pick 15 rfl) rfl ?_
    refine j_iconst (v := Int32.ofInt 2) (dk dt_X12_pick 16 rfl) (by decide) ?_
    refine jz_callV1 (dk dt_X12_pick 17 rfl) vl_X12_930 rfl (T_X12_bars (by decide) m_2 H) m_2.1.1 rfl (by decide) (Nat.zero_le _) (Nat.zero_le _) (Nat.le_of_ble_eq_true rfl) (fun v_27 h_27 P_27 => ?_)
    obtain ⟨x_27, rfl, r_27, rfl, H⟩ := P_27
    dsimp only [rs]
    refine jz_if_le 43 (dk dt_X12_pick 18 rfl) (by decide) r_27 H (fun H => ?_) (fun H => ?_)
    · refine j_aload_n (dk dt_X12_pick 25 rfl) rfl ?_
      refine j_iload_n (dk dt_X12_pick 26 rfl) rfl ?_
      refine j_aload_n (dk dt_X12_pick 27 rfl) rfl ?_
      refine jm_getA (dk dt_X12_pick 28 rfl) fl_X12_36 rfl (c := 14) rfl m_2 ?_
      refine j_iload_n (dk dt_X12_pick 29 rfl) rfl ?_
      obtain ⟨p_50, q_50, H⟩ := H
      refine jm_iald (dk dt_X12_pick 30 rfl) rfl rfl m_2 p_50 q_50 ?_
      refine jz_callV2 (dk dt_X12_pick 31 rfl) vl_X12_936 rfl (T_X12_together r_x1 (m_2.2.1.1 _ _) m_2 H) m_2.1.1 rfl (by decide) (Nat.zero_le _) (Nat.zero_le _) (Nat.le_of_ble_eq_true rfl) (fun v_51 h_51 P_51 => ?_)
      obtain ⟨x_51, u_51, rfl, r_51, m_51, H⟩ := P_51
      dsimp only [rs]
      refine j_istore_n (dk dt_X12_pick 32 rfl) (by decide) ?_
      refine j_iload_n (dk dt_X12_pick 33 rfl) rfl ?_
      refine jz_if_ge 67 (dk dt_X12_pick 34 rfl) (by decide) r_51 H (fun H => ?_) (fun H => ?_)
      · refine j_iload_n (dk dt_X12_pick 39 rfl) rfl ?_
        exact j_el (T_X12_pick_68 r_51 m_51   H) trivial
      · refine j_aload_n (dk dt_X12_pick 35 rfl) rfl ?_
        refine j_iconst (v := Int32.ofInt 3) (dk dt_X12_pick 36 rfl) (by decide) ?_
        refine jz_callV1 (dk dt_X12_pick 37 rfl) vl_X12_237 rfl (T_X12_throwing (by decide) m_51 H) m_51.1.1 rfl (by decide) (Nat.zero_le _) (Nat.zero_le _) (Nat.le_of_ble_eq_true rfl) (fun v_61 h_61 P_61 => ?_)
        obtain ⟨x_61, u_61, rfl, r_61, m_61, H⟩ := P_61
        dsimp only [rs]
        refine j_goto 68 (dk dt_X12_pick 38 rfl) (by decide) ?_
        exact j_el (T_X12_pick_68 r_61 m_61   H) trivial
    · refine j_aload_n (dk dt_X12_pick 19 rfl) rfl ?_
      refine j_aload_n (dk dt_X12_pick 20 rfl) rfl ?_
      refine j_iconst (v := Int32.ofInt 2) (dk dt_X12_pick 21 rfl) (by decide) ?_
      refine jz_callV1 (dk dt_X12_pick 22 rfl) vl_X12_930 rfl (T_X12_bars (by decide) m_2 H) m_2.1.1 rfl (by decide) (Nat.zero_le _) (Nat.zero_le _) (Nat.le_of_ble_eq_true rfl) (fun v_36 h_36 P_36 => ?_)
      obtain ⟨x_36, rfl, r_36, rfl, H⟩ := P_36
      dsimp only [rs]
      refine jz_callV1 (dk dt_X12_pick 23 rfl) vl_X12_237 rfl (T_X12_throwing r_36 m_2 H) m_2.1.1 rfl (by decide) (Nat.zero_le _) (Nat.zero_le _) (Nat.le_of_ble_eq_true rfl) (fun v_39 h_39 P_39 => ?_)
      obtain ⟨x_39, u_39, rfl, r_39, m_39, H⟩ := P_39
      dsimp only [rs]
      exact j_ireturn (dk dt_X12_pick 24 rfl) rfl rfl ⟨_, _, rfl, r_39, m_39, H⟩
def F_X12_put  (x1 : Int) (u : Mu) (P : Mu → Prop) : Prop :=
  (0 ≤ mI u 0 87 ∧ mI u 0 87 < 2000 ∧ (∀ u_10, u_10 = uI u 86 (mI u 0 87) (w8 x1) → (∀ u_18, u_18 = uI u_10 0 87 (w32 (mI u_10 0 87 + 1)) → P u_18)))
theorem T_X12_put  {x1 : Int} {u : Mu} {P : Mu → Prop} {h : Hp} {g : Nat → Nat} (r_x1 : R32 x1) (m : Ms h g u)  (H : F_X12_put x1 u P) : Con mX12_put 1 0 0 [vr (some (g 0)), ii (x1)] h (QMV g P) := by
  refine con_of rfl (Nat.le_of_ble_eq_true rfl) (by decide) ?_
  show J mX12_put 1 0 0 _ 0 [some (vr (some (g 0))), some (ii (x1))] [] h
  unfold F_X12_put at H
  refine j_aload_n (dk dt_X12_put 0 rfl) rfl ?_
  refine jm_getA (dk dt_X12_put 1 rfl) fl_X12_153 rfl (c := 13) rfl m ?_
  refine j_aload_n (dk dt_X12_put 2 rfl) rfl ?_
  refine jm_getI (kz := 87) (dk dt_X12_put 3 rfl) fl_X12_746 rfl rfl m ?_
  refine j_iload_n (dk dt_X12_put 4 rfl) rfl ?_
  refine jz_i2b (dk dt_X12_put 5 rfl) ?_
  obtain ⟨p_10, q_10, H⟩ := H
  refine jm_bast (dk dt_X12_put 6 rfl) rfl rfl m p_10 q_10 (b8_w _) (fun h_10 m_10 => ?_)
  replace H := H _ rfl
  refine j_aload_n (dk dt_X12_put 7 rfl) rfl ?_
  refine j_dup (dk dt_X12_put 8 rfl) rfl ?_
  refine jm_getI (kz := 87) (dk dt_X12_put 9 rfl) fl_X12_746 rfl rfl m_10 ?_
  refine j_iconst (v := Int32.ofInt 1) (dk dt_X12_put 10 rfl) (by decide) ?_
  refine jz_iadd (dk dt_X12_put 11 rfl) ?_
  refine jm_putI (kz := 87) (dk dt_X12_put 12 rfl) fl_X12_746 rfl rfl rfl rfl m_10 (r32_w _) (fun h_18 m_18 => ?_)
  replace H := H _ rfl
  exact j_return (dk dt_X12_put 13 rfl) rfl ⟨_, rfl, m_18, H⟩
def L_X12_putNumber_9  (x3 : Int) (x4 : Int) (u : Mu) (P : (Int × Mu) ⊕ ((Mu)) → Prop) : Prop :=
  (if x3 ≤ x4 then P (.inr u) else (0 ≤ w32 (w32 (20 - x3) + x4) ∧ w32 (w32 (20 - x3) + x4) < 20 ∧ F_X12_put (mI u 70 (w32 (w32 (20 - x3) + x4))) u (fun u_28 => P (.inl (w32 (x4 + 1), u_28)))))
theorem U_X12_putNumber_9  {x3 : Int} {x4 : Int} {u : Mu} {P : (Int × Mu) ⊕ ((Mu)) → Prop} {h : Hp} {g : Nat → Nat} {post : Option Sv ⊕ String → Hp → Prop} (r_x3 : R32 x3) (r_x4 : R32 x4) (m : Ms h g u)  (hl : ∀ (x4 : Int) (u : Mu) (h : Hp), P (.inl (x4, u)) → Ms h g u → R32 x4 → J mX12_putNumber 2 0 0 post 9 [some (vr (some (g 0))), none, none, some (ii (x3)), some (ii (x4))] [] h) (he0 : ∀ (u : Mu) (h : Hp), P (.inr u) → Ms h g u → J mX12_putNumber 2 0 0 post 37 [none, none, none, none, none] [] h) (H : L_X12_putNumber_9 x3 x4 u P) : J mX12_putNumber 2 0 0 post 9 [some (vr (some (g 0))), none, none, some (ii (x3)), some (ii (x4))] [] h := by
  unfold L_X12_putNumber_9 at H
  refine j_iload (dk dt_X12_putNumber 6 rfl) rfl ?_
  refine j_iload_n (dk dt_X12_putNumber 7 rfl) rfl ?_
  refine jz_icmp_ge 37 (dk dt_X12_putNumber 8 rfl) (by decide) r_x4 r_x3 H (fun H => ?_) (fun H => ?_)
  · exact j_el (he0 _ _ H m) trivial
  · refine j_aload_n (dk dt_X12_putNumber 9 rfl) rfl ?_
    refine j_aload_n (dk dt_X12_putNumber 10 rfl) rfl ?_
    refine jm_getA (dk dt_X12_putNumber 11 rfl) fl_X12_138 rfl (c := 13) rfl m ?_
    refine j_bipush (v := Int32.ofInt 20) (dk dt_X12_putNumber 12 rfl) (by decide) ?_
    refine j_iload_n (dk dt_X12_putNumber 13 rfl) rfl ?_
    refine jz_isub (dk dt_X12_putNumber 14 rfl) ?_
    refine j_iload (dk dt_X12_putNumber 15 rfl) rfl ?_
    refine jz_iadd (dk dt_X12_putNumber 16 rfl) ?_
    obtain ⟨p_27, q_27, H⟩ := H
    refine jm_bald (dk dt_X12_putNumber 17 rfl) rfl rfl m p_27 q_27 ?_
    refine jz_callV1 (dk dt_X12_putNumber 18 rfl) vl_X12_749 rfl (T_X12_put (m.2.1.1 _ _) m H) m.1.1 rfl (by decide) (Nat.zero_le _) (Nat.zero_le _) (Nat.le_of_ble_eq_true rfl) (fun v_28 h_28 P_28 => ?_)
    obtain ⟨u_28, rfl, m_28, H⟩ := P_28
    dsimp only [rs]
    refine jz_iinc (dk dt_X12_putNumber 19 rfl) rfl ?_
    refine j_goto 9 (dk dt_X12_putNumber 20 rfl) (by decide) ?_
    exact j_el (hl _ _ _ H m_28 (r32_w _)) (And.intro rfl (And.intro rfl (And.intro rfl trivial)))
def F_X12_putNumber_9  (x3 : Int) (x4 : Int) (u : Mu) (P : Mu → Prop) : Prop :=
  lp (S := Int × Mu) (E := (Mu)) (fun q P_ => L_X12_putNumber_9 x3 q.1 q.2 P_) (x4, u) (fun (u : Mu) => P u)
theorem T_X12_putNumber_9  {x3 : Int} {x4 : Int} {u : Mu} {P : Mu → Prop} {h : Hp} {g : Nat → Nat} (r_x3 : R32 x3) (r_x4 : R32 x4) (m : Ms h g u)   (H : F_X12_putNumber_9 x3 x4 u P) : J mX12_putNumber 2 0 0 (nx (QMV g P)) 9 [some (vr (some (g 0))), none, none, some (ii (x3)), some (ii (x4))] [] h := by
  unfold F_X12_putNumber_9 at H
  refine lp_J (G := fun q => ∀ h : Hp, Ms h g (q.2) → R32 (q.1) → J mX12_putNumber 2 0 0 (nx (QMV g P)) 9 [some (vr (some (g 0))), none, none, some (ii (x3)), some (ii ((q.1)))] [] h) (fun q P_ hl_ he_ Hb => ?_) (x4, u) H _ m r_x4
  obtain ⟨x4, u⟩ := q
  intro h m r_x4
  refine U_X12_putNumber_9 (P := P_) r_x3 r_x4 m  (fun x4 u h Hp m r_x4 => hl_ (x4, u) Hp h m r_x4) ?_ Hb
  · intro u h Hp m
    have H := he_ _ Hp
    exact j_return (dk dt_X12_putNumber 21 rfl) rfl ⟨_, rfl, m, H⟩
def F_X12_putNumber  (x1 : Int) (u : Mu) (P : Mu → Prop) : Prop :=
  F_X12_decimal x1 u (fun x_2 u_2 => F_X12_putNumber_9 x_2 0 u_2 P)
theorem T_X12_putNumber  {x1 : Int} {u : Mu} {P : Mu → Prop} {h : Hp} {g : Nat → Nat} (r_x1 : R64 x1) (m : Ms h g u)  (H : F_X12_putNumber x1 u P) : Con mX12_putNumber 2 0 0 [vr (some (g 0)), ll (x1)] h (QMV g P) := by
  refine con_of rfl (Nat.le_of_ble_eq_true rfl) (by decide) ?_
  show J mX12_putNumber 2 0 0 _ 0 [some (vr (some (g 0))), some (ll (x1)), none, none, none] [] h
  unfold F_X12_putNumber at H
  refine j_aload_n (dk dt_X12_putNumber 0 rfl) rfl ?_
  refine j_lload_n (dk dt_X12_putNumber 1 rfl) rfl ?_
  refine jz_callV1 (dk dt_X12_putNumber 2 rfl) vl_X12_554 rfl (T_X12_decimal r_x1 m H) m.1.1 rfl (by decide) (Nat.zero_le _) (Nat.zero_le _) (Nat.le_of_ble_eq_true rfl) (fun v_2 h_2 P_2 => ?_)
  obtain ⟨x_2, u_2, rfl, r_2, m_2, H⟩ := P_2
  dsimp only [rs]
  refine j_istore_n (dk dt_X12_putNumber 3 rfl) (by decide) ?_
  refine j_iconst (v := Int32.ofInt 0) (dk dt_X12_putNumber 4 rfl) (by decide) ?_
  refine j_istore (dk dt_X12_putNumber 5 rfl) (by decide) ?_
  exact j_el (T_X12_putNumber_9 r_2 (by decide) m_2   H) (And.intro rfl (And.intro rfl (And.intro rfl trivial)))
def F_X12_putCorner_32  (x1 : Int) (u : Mu) (P : Mu → Prop) : Prop :=
  F_X12_putNumber (w32 (x1 + 1)) u (fun u_37 => P u_37)
theorem T_X12_putCorner_32  {x1 : Int} {u : Mu} {P : Mu → Prop} {h : Hp} {g : Nat → Nat} (r_x1 : R32 x1) (m : Ms h g u)   (H : F_X12_putCorner_32 x1 u P) : J mX12_putCorner 3 0 0 (nx (QMV g P)) 32 [some (vr (some (g 0))), some (ii (x1)), none, none] [] h := by
  unfold F_X12_putCorner_32 at H
  refine j_aload_n (dk dt_X12_putCorner 19 rfl) rfl ?_
  refine j_iload_n (dk dt_X12_putCorner 20 rfl) rfl ?_
  refine j_iconst (v := Int32.ofInt 1) (dk dt_X12_putCorner 21 rfl) (by decide) ?_
  refine jz_iadd (dk dt_X12_putCorner 22 rfl) ?_
  refine jz_i2l (dk dt_X12_putCorner 23 rfl) (r32_w _) ?_
  refine jz_callV1 (dk dt_X12_putCorner 24 rfl) vl_X12_782 rfl (T_X12_putNumber (r64_3 (r32_w _)) m H) m.1.1 rfl (by decide) (Nat.zero_le _) (Nat.zero_le _) (Nat.le_of_ble_eq_true rfl) (fun v_37 h_37 P_37 => ?_)
  obtain ⟨u_37, rfl, m_37, H⟩ := P_37
  dsimp only [rs]
  exact j_return (dk dt_X12_putCorner 25 rfl) rfl ⟨_, rfl, m_37, H⟩
def F_X12_putCorner_12  (x1 : Int) (x2 : Int) (x3 : Int) (u : Mu) (P : Mu → Prop) : Prop :=
  F_X12_put (w32 (65 + x2)) u (fun u_17 => (if bAnd x3 2 ≤ 0 then F_X12_putCorner_32 x1 u_17 P else F_X12_put 36 u_17 (fun u_29 => F_X12_putCorner_32 x1 u_29 P)))
theorem T_X12_putCorner_12  {x1 : Int} {x2 : Int} {x3 : Int} {u : Mu} {P : Mu → Prop} {h : Hp} {g : Nat → Nat} (r_x1 : R32 x1) (r_x2 : R32 x2) (r_x3 : R32 x3) (m : Ms h g u)   (H : F_X12_putCorner_12 x1 x2 x3 u P) : J mX12_putCorner 3 0 0 (nx (QMV g P)) 12 [some (vr (some (g 0))), some (ii (x1)), some (ii (x2)), some (ii (x3))] [] h := by
  unfold F_X12_putCorner_12 at H
  refine j_aload_n (dk dt_X12_putCorner 7 rfl) rfl ?_
  refine j_bipush (v := Int32.ofInt 65) (dk dt_X12_putCorner 8 rfl) (by decide) ?_
  refine j_iload_n (dk dt_X12_putCorner 9 rfl) rfl ?_
  refine jz_iadd (dk dt_X12_putCorner 10 rfl) ?_
  refine jz_callV1 (dk dt_X12_putCorner 11 rfl) vl_X12_749 rfl (T_X12_put (r32_w _) m H) m.1.1 rfl (by decide) (Nat.zero_le _) (Nat.zero_le _) (Nat.le_of_ble_eq_true rfl) (fun v_17 h_17 P_17 => ?_)
  obtain ⟨u_17, rfl, m_17, H⟩ := P_17
  dsimp only [rs]
  refine j_iload_n (dk dt_X12_putCorner 12 rfl) rfl ?_
  refine j_iconst (v := Int32.ofInt 2) (dk dt_X12_putCorner 13 rfl) (by decide) ?_
  refine jz_iand (dk dt_X12_putCorner 14 rfl) ?_
  refine jz_if_le 32 (dk dt_X12_putCorner 15 rfl) (by decide) (r32_t _) H (fun H => ?_) (fun H => ?_)
  · exact j_el (T_X12_putCorner_32 r_x1 m_17   H) (And.intro rfl (And.intro rfl trivial))
  · refine j_aload_n (dk dt_X12_putCorner 16 rfl) rfl ?_
    refine j_bipush (v := Int32.ofInt 36) (dk dt_X12_putCorner 17 rfl) (by decide) ?_
    refine jz_callV1 (dk dt_X12_putCorner 18 rfl) vl_X12_749 rfl (T_X12_put (by decide) m_17 H) m_17.1.1 rfl (by decide) (Nat.zero_le _) (Nat.zero_le _) (Nat.le_of_ble_eq_true rfl) (fun v_29 h_29 P_29 => ?_)
    obtain ⟨u_29, rfl, m_29, H⟩ := P_29
    dsimp only [rs]
    exact j_el (T_X12_putCorner_32 r_x1 m_29   H) (And.intro rfl (And.intro rfl trivial))
def F_X12_putCorner  (x1 : Int) (x2 : Int) (x3 : Int) (u : Mu) (P : Mu → Prop) : Prop :=
  (if bAnd x3 1 ≤ 0 then F_X12_putCorner_12 x1 x2 x3 u P else F_X12_put 36 u (fun u_9 => F_X12_putCorner_12 x1 x2 x3 u_9 P))
theorem T_X12_putCorner  {x1 : Int} {x2 : Int} {x3 : Int} {u : Mu} {P : Mu → Prop} {h : Hp} {g : Nat → Nat} (r_x1 : R32 x1) (r_x2 : R32 x2) (r_x3 : R32 x3) (m : Ms h g u)  (H : F_X12_putCorner x1 x2 x3 u P) : Con mX12_putCorner 3 0 0 [vr (some (g 0)), ii (x1), ii (x2), ii (x3)] h (QMV g P) := by
  refine con_of rfl (Nat.le_of_ble_eq_true rfl) (by decide) ?_
  show J mX12_putCorner 3 0 0 _ 0 [some (vr (some (g 0))), some (ii (x1)), some (ii (x2)), some (ii (x3))] [] h
  unfold F_X12_putCorner at H
  refine j_iload_n (dk dt_X12_putCorner 0 rfl) rfl ?_
  refine j_iconst (v := Int32.ofInt 1) (dk dt_X12_putCorner 1 rfl) (by decide) ?_
  refine jz_iand (dk dt_X12_putCorner 2 rfl) ?_
  refine jz_if_le 12 (dk dt_X12_putCorner 3 rfl) (by decide) (r32_t _) H (fun H => ?_) (fun H => ?_)
  · exact j_el (T_X12_putCorner_12 r_x1 r_x2 r_x3 m   H) (And.intro rfl (And.intro rfl (And.intro rfl (And.intro rfl trivial))))
  · refine j_aload_n (dk dt_X12_putCorner 4 rfl) rfl ?_
    refine j_bipush (v := Int32.ofInt 36) (dk dt_X12_putCorner 5 rfl) (by decide) ?_
    refine jz_callV1 (dk dt_X12_putCorner 6 rfl) vl_X12_749 rfl (T_X12_put (by decide) m H) m.1.1 rfl (by decide) (Nat.zero_le _) (Nat.zero_le _) (Nat.le_of_ble_eq_true rfl) (fun v_9 h_9 P_9 => ?_)
    obtain ⟨u_9, rfl, m_9, H⟩ := P_9
    dsimp only [rs]
    exact j_el (T_X12_putCorner_12 r_x1 r_x2 r_x3 m_9   H) (And.intro rfl (And.intro rfl (And.intro rfl (And.intro rfl trivial))))
def L_X12_putLetters_2  (x1 : Int) (x2 : Int) (x3 : Int) (u : Mu) (P : (Int × Mu) ⊕ ((Mu)) → Prop) : Prop :=
  (if x2 ≤ x3 then P (.inr u) else (0 ≤ w32 (x1 + x3) ∧ w32 (x1 + x3) < 82400 ∧ F_X12_put (mI u 18 (w32 (x1 + x3))) u (fun u_16 => P (.inl (w32 (x3 + 1), u_16)))))
theorem U_X12_putLetters_2  {x1 : Int} {x2 : Int} {x3 : Int} {u : Mu} {P : (Int × Mu) ⊕ ((Mu)) → Prop} {h : Hp} {g : Nat → Nat} {post : Option Sv ⊕ String → Hp → Prop} (r_x1 : R32 x1) (r_x2 : R32 x2) (r_x3 : R32 x3) (m : Ms h g u)  (hl : ∀ (x3 : Int) (u : Mu) (h : Hp), P (.inl (x3, u)) → Ms h g u → R32 x3 → J mX12_putLetters 2 0 0 post 2 [some (vr (some (g 0))), some (ii (x1)), some (ii (x2)), some (ii (x3))] [] h) (he0 : ∀ (u : Mu) (h : Hp), P (.inr u) → Ms h g u → J mX12_putLetters 2 0 0 post 25 [none, none, none, none] [] h) (H : L_X12_putLetters_2 x1 x2 x3 u P) : J mX12_putLetters 2 0 0 post 2 [some (vr (some (g 0))), some (ii (x1)), some (ii (x2)), some (ii (x3))] [] h := by
  unfold L_X12_putLetters_2 at H
  refine j_iload_n (dk dt_X12_putLetters 2 rfl) rfl ?_
  refine j_iload_n (dk dt_X12_putLetters 3 rfl) rfl ?_
  refine jz_icmp_ge 25 (dk dt_X12_putLetters 4 rfl) (by decide) r_x3 r_x2 H (fun H => ?_) (fun H => ?_)
  · exact j_el (he0 _ _ H m) trivial
  · refine j_aload_n (dk dt_X12_putLetters 5 rfl) rfl ?_
    refine j_aload_n (dk dt_X12_putLetters 6 rfl) rfl ?_
    refine jm_getA (dk dt_X12_putLetters 7 rfl) fl_X12_49 rfl (c := 13) rfl m ?_
    refine j_iload_n (dk dt_X12_putLetters 8 rfl) rfl ?_
    refine j_iload_n (dk dt_X12_putLetters 9 rfl) rfl ?_
    refine jz_iadd (dk dt_X12_putLetters 10 rfl) ?_
    obtain ⟨p_15, q_15, H⟩ := H
    refine jm_bald (dk dt_X12_putLetters 11 rfl) rfl rfl m p_15 q_15 ?_
    refine jz_callV1 (dk dt_X12_putLetters 12 rfl) vl_X12_749 rfl (T_X12_put (m.2.1.1 _ _) m H) m.1.1 rfl (by decide) (Nat.zero_le _) (Nat.zero_le _) (Nat.le_of_ble_eq_true rfl) (fun v_16 h_16 P_16 => ?_)
    obtain ⟨u_16, rfl, m_16, H⟩ := P_16
    dsimp only [rs]
    refine jz_iinc (dk dt_X12_putLetters 13 rfl) rfl ?_
    refine j_goto 2 (dk dt_X12_putLetters 14 rfl) (by decide) ?_
    exact j_el (hl _ _ _ H m_16 (r32_w _)) (And.intro rfl (And.intro rfl (And.intro rfl (And.intro rfl trivial))))
def F_X12_putLetters_2  (x1 : Int) (x2 : Int) (x3 : Int) (u : Mu) (P : Mu → Prop) : Prop :=
  lp (S := Int × Mu) (E := (Mu)) (fun q P_ => L_X12_putLetters_2 x1 x2 q.1 q.2 P_) (x3, u) (fun (u : Mu) => P u)
theorem T_X12_putLetters_2  {x1 : Int} {x2 : Int} {x3 : Int} {u : Mu} {P : Mu → Prop} {h : Hp} {g : Nat → Nat} (r_x1 : R32 x1) (r_x2 : R32 x2) (r_x3 : R32 x3) (m : Ms h g u)   (H : F_X12_putLetters_2 x1 x2 x3 u P) : J mX12_putLetters 2 0 0 (nx (QMV g P)) 2 [some (vr (some (g 0))), some (ii (x1)), some (ii (x2)), some (ii (x3))] [] h := by
  unfold F_X12_putLetters_2 at H
  refine lp_J (G := fun q => ∀ h : Hp, Ms h g (q.2) → R32 (q.1) → J mX12_putLetters 2 0 0 (nx (QMV g P)) 2 [some (vr (some (g 0))), some (ii (x1)), some (ii (x2)), some (ii ((q.1)))] [] h) (fun q P_ hl_ he_ Hb => ?_) (x3, u) H _ m r_x3
  obtain ⟨x3, u⟩ := q
  intro h m r_x3
  refine U_X12_putLetters_2 (P := P_) r_x1 r_x2 r_x3 m  (fun x3 u h Hp m r_x3 => hl_ (x3, u) Hp h m r_x3) ?_ Hb
  · intro u h Hp m
    have H := he_ _ Hp
    exact j_return (dk dt_X12_putLetters 15 rfl) rfl ⟨_, rfl, m, H⟩
def F_X12_putLetters  (x1 : Int) (x2 : Int) (u : Mu) (P : Mu → Prop) : Prop :=
  F_X12_putLetters_2 x1 x2 0 u P
theorem T_X12_putLetters  {x1 : Int} {x2 : Int} {u : Mu} {P : Mu → Prop} {h : Hp} {g : Nat → Nat} (r_x1 : R32 x1) (r_x2 : R32 x2) (m : Ms h g u)  (H : F_X12_putLetters x1 x2 u P) : Con mX12_putLetters 2 0 0 [vr (some (g 0)), ii (x1), ii (x2)] h (QMV g P) := by
  refine con_of rfl (Nat.le_of_ble_eq_true rfl) (by decide) ?_
  show J mX12_putLetters 2 0 0 _ 0 [some (vr (some (g 0))), some (ii (x1)), some (ii (x2)), none] [] h
  unfold F_X12_putLetters at H
  refine j_iconst (v := Int32.ofInt 0) (dk dt_X12_putLetters 0 rfl) (by decide) ?_
  refine j_istore_n (dk dt_X12_putLetters 1 rfl) (by decide) ?_
  exact j_el (T_X12_putLetters_2 r_x1 r_x2 (by decide) m   H) (And.intro rfl (And.intro rfl (And.intro rfl (And.intro rfl trivial))))
def L_X12_say_2  (x1 : Nat) (x2 : Int) (u : Mu) (P : (Int × Mu) ⊕ ((Mu)) → Prop) : Prop :=
  (x1 < 44 ∧ (if sLen x1 ≤ x2 then P (.inr u) else (x1 < 44 ∧ (0 ≤ x2 ∧ x2 < sLen x1 ∧ F_X12_put (sCh x1 x2) u (fun u_16 => P (.inl (w32 (x2 + 1), u_16)))))))
theorem U_X12_say_2  {x1 : Nat} {x2 : Int} {u : Mu} {P : (Int × Mu) ⊕ ((Mu)) → Prop} {h : Hp} {g : Nat → Nat} {post : Option Sv ⊕ String → Hp → Prop} (r_x2 : R32 x2) (m : Ms h g u)  (hl : ∀ (x2 : Int) (u : Mu) (h : Hp), P (.inl (x2, u)) → Ms h g u → R32 x2 → J mX12_say 7 0 0 post 2 [some (vr (some (g 0))), some (vs (x1)), some (ii (x2))] [] h) (he0 : ∀ (u : Mu) (h : Hp), P (.inr u) → Ms h g u → J mX12_say 7 0 0 post 25 [none, none, none] [] h) (H : L_X12_say_2 x1 x2 u P) : J mX12_say 7 0 0 post 2 [some (vr (some (g 0))), some (vs (x1)), some (ii (x2))] [] h := by
  unfold L_X12_say_2 at H
  refine j_iload_n (dk dt_X12_say 2 rfl) rfl ?_
  refine j_aloadS_n (dk dt_X12_say 3 rfl) rfl ?_
  obtain ⟨l_4, H⟩ := H
  refine jz_slength (dk dt_X12_say 4 rfl) sv_X12_264 l_4 (by decide) (Nat.le_of_ble_eq_true rfl) ?_
  refine jz_icmp_ge 25 (dk dt_X12_say 5 rfl) (by decide) r_x2 (r32_sLen _) H (fun H => ?_) (fun H => ?_)
  · exact j_el (he0 _ _ H m) trivial
  · refine j_aload_n (dk dt_X12_say 6 rfl) rfl ?_
    refine j_aloadS_n (dk dt_X12_say 7 rfl) rfl ?_
    refine j_iload_n (dk dt_X12_say 8 rfl) rfl ?_
    obtain ⟨l_13, H⟩ := H
    obtain ⟨p_13, q_13, H⟩ := H
    refine jz_scharAt (dk dt_X12_say 9 rfl) sv_X12_273 l_13 p_13 q_13 (by decide) (Nat.le_of_ble_eq_true rfl) ?_
    refine jz_callV1 (dk dt_X12_say 10 rfl) vl_X12_749 rfl (T_X12_put (r32_sCh _ _) m H) m.1.1 rfl (by decide) (Nat.zero_le _) (Nat.zero_le _) (Nat.le_of_ble_eq_true rfl) (fun v_16 h_16 P_16 => ?_)
    obtain ⟨u_16, rfl, m_16, H⟩ := P_16
    dsimp only [rs]
    refine jz_iinc (dk dt_X12_say 11 rfl) rfl ?_
    refine j_goto 2 (dk dt_X12_say 12 rfl) (by decide) ?_
    exact j_el (hl _ _ _ H m_16 (r32_w _)) (And.intro rfl (And.intro rfl (And.intro rfl trivial)))
def F_X12_say_2  (x1 : Nat) (x2 : Int) (u : Mu) (P : Mu → Prop) : Prop :=
  lp (S := Int × Mu) (E := (Mu)) (fun q P_ => L_X12_say_2 x1 q.1 q.2 P_) (x2, u) (fun (u : Mu) => P u)
theorem T_X12_say_2  {x1 : Nat} {x2 : Int} {u : Mu} {P : Mu → Prop} {h : Hp} {g : Nat → Nat} (r_x2 : R32 x2) (m : Ms h g u)   (H : F_X12_say_2 x1 x2 u P) : J mX12_say 7 0 0 (nx (QMV g P)) 2 [some (vr (some (g 0))), some (vs (x1)), some (ii (x2))] [] h := by
  unfold F_X12_say_2 at H
  refine lp_J (G := fun q => ∀ h : Hp, Ms h g (q.2) → R32 (q.1) → J mX12_say 7 0 0 (nx (QMV g P)) 2 [some (vr (some (g 0))), some (vs (x1)), some (ii ((q.1)))] [] h) (fun q P_ hl_ he_ Hb => ?_) (x2, u) H _ m r_x2
  obtain ⟨x2, u⟩ := q
  intro h m r_x2
  refine U_X12_say_2 (P := P_) r_x2 m  (fun x2 u h Hp m r_x2 => hl_ (x2, u) Hp h m r_x2) ?_ Hb
  · intro u h Hp m
    have H := he_ _ Hp
    exact j_return (dk dt_X12_say 13 rfl) rfl ⟨_, rfl, m, H⟩
def F_X12_say  (x1 : Nat) (u : Mu) (P : Mu → Prop) : Prop :=
  F_X12_say_2 x1 0 u P
theorem T_X12_say  {x1 : Nat} {u : Mu} {P : Mu → Prop} {h : Hp} {g : Nat → Nat}  (m : Ms h g u)  (H : F_X12_say x1 u P) : Con mX12_say 7 0 0 [vr (some (g 0)), vs (x1)] h (QMV g P) := by
  refine con_of rfl (Nat.le_of_ble_eq_true rfl) (by decide) ?_
  show J mX12_say 7 0 0 _ 0 [some (vr (some (g 0))), some (vs (x1)), none] [] h
  unfold F_X12_say at H
  refine j_iconst (v := Int32.ofInt 0) (dk dt_X12_say 0 rfl) (by decide) ?_
  refine j_istore_n (dk dt_X12_say 1 rfl) (by decide) ?_
  exact j_el (T_X12_say_2 (by decide) m   H) (And.intro rfl (And.intro rfl (And.intro rfl trivial)))
def F_X12_putPlace_119  (u : Mu) (P : Mu → Prop) : Prop :=
  F_X12_say 10 u (fun u_123 => P u_123)
theorem T_X12_putPlace_119  {u : Mu} {P : Mu → Prop} {h : Hp} {g : Nat → Nat}  (m : Ms h g u)   (H : F_X12_putPlace_119 u P) : J mX12_putPlace 8 0 0 (nx (QMV g P)) 119 [some (vr (some (g 0))), none, none, none, none, none, none, none, none] [] h := by
  unfold F_X12_putPlace_119 at H
  refine j_aload_n (dk dt_X12_putPlace 67 rfl) rfl ?_
  refine j_ldcwS 10 rfl (dk dt_X12_putPlace 68 rfl) rfl rfl ?_
  refine jz_callV1 (dk dt_X12_putPlace 69 rfl) vl_X12_786 rfl (T_X12_say m H) m.1.1 rfl (by decide) (Nat.zero_le _) (Nat.zero_le _) (Nat.le_of_ble_eq_true rfl) (fun v_123 h_123 P_123 => ?_)
  obtain ⟨u_123, rfl, m_123, H⟩ := P_123
  dsimp only [rs]
  exact j_return (dk dt_X12_putPlace 70 rfl) rfl ⟨_, rfl, m_123, H⟩
def F_X12_putPlace_194  (u : Mu) (P : Mu → Prop) : Prop :=
  P u
theorem T_X12_putPlace_194  {u : Mu} {P : Mu → Prop} {h : Hp} {g : Nat → Nat}  (m : Ms h g u)   (H : F_X12_putPlace_194 u P) : J mX12_putPlace 8 0 0 (nx (QMV g P)) 194 [none, none, none, none, none, none, none, none, none] [] h := by
  unfold F_X12_putPlace_194 at H
  exact j_return (dk dt_X12_putPlace 109 rfl) rfl ⟨_, rfl, m, H⟩
def F_X12_putPlace_168  (x1 : Int) (u : Mu) (P : Mu → Prop) : Prop :=
  (0 ≤ x1 ∧ x1 < 60420 ∧ (if mI u 37 x1 < 0 then F_X12_putPlace_194 u P else F_X12_put 64 u (fun u_180 => F_X12_putNumber (mI u_180 37 x1) u_180 (fun u_191 => F_X12_putPlace_194 u_191 P))))
theorem T_X12_putPlace_168  {x1 : Int} {u : Mu} {P : Mu → Prop} {h : Hp} {g : Nat → Nat} (r_x1 : R32 x1) (m : Ms h g u)   (H : F_X12_putPlace_168 x1 u P) : J mX12_putPlace 8 0 0 (nx (QMV g P)) 168 [some (vr (some (g 0))), some (ii (x1)), none, none, none, none, none, none, none] [] h := by
  unfold F_X12_putPlace_168 at H
  refine j_aload_n (dk dt_X12_putPlace 94 rfl) rfl ?_
  refine jm_getA (dk dt_X12_putPlace 95 rfl) fl_X12_100 rfl (c := 14) rfl m ?_
  refine j_iload_n (dk dt_X12_putPlace 96 rfl) rfl ?_
  obtain ⟨p_173, q_173, H⟩ := H
  refine jm_iald (dk dt_X12_putPlace 97 rfl) rfl rfl m p_173 q_173 ?_
  refine jz_if_lt 194 (dk dt_X12_putPlace 98 rfl) (by decide) (m.2.1.1 _ _) H (fun H => ?_) (fun H => ?_)
  · exact j_el (T_X12_putPlace_194  m   H) trivial
  · refine j_aload_n (dk dt_X12_putPlace 99 rfl) rfl ?_
    refine j_bipush (v := Int32.ofInt 64) (dk dt_X12_putPlace 100 rfl) (by decide) ?_
    refine jz_callV1 (dk dt_X12_putPlace 101 rfl) vl_X12_749 rfl (T_X12_put (by decide) m H) m.1.1 rfl (by decide) (Nat.zero_le _) (Nat.zero_le _) (Nat.le_of_ble_eq_true rfl) (fun v_180 h_180 P_180 => ?_)
    obtain ⟨u_180, rfl, m_180, H⟩ := P_180
    dsimp only [rs]
    refine j_aload_n (dk dt_X12_putPlace 102 rfl) rfl ?_
    refine j_aload_n (dk dt_X12_putPlace 103 rfl) rfl ?_
    refine jm_getA (dk dt_X12_putPlace 104 rfl) fl_X12_100 rfl (c := 14) rfl m_180 ?_
    refine j_iload_n (dk dt_X12_putPlace 105 rfl) rfl ?_
    refine jm_iald (dk dt_X12_putPlace 106 rfl) rfl rfl m_180 p_173 q_173 ?_
    refine jz_i2l (dk dt_X12_putPlace 107 rfl) (m_180.2.1.1 _ _) ?_
    refine jz_callV1 (dk dt_X12_putPlace 108 rfl) vl_X12_782 rfl (T_X12_putNumber (r64_3 (m_180.2.1.1 _ _)) m_180 H) m_180.1.1 rfl (by decide) (Nat.zero_le _) (Nat.zero_le _) (Nat.le_of_ble_eq_true rfl) (fun v_191 h_191 P_191 => ?_)
    obtain ⟨u_191, rfl, m_191, H⟩ := P_191
    dsimp only [rs]
    exact j_el (T_X12_putPlace_194  m_191   H) trivial
def F_X12_putPlace_97  (x1 : Int) (x4 : Int) (x5 : Int) (x6 : Int) (x7 : Int) (s0 : Int) (u : Mu) (P : Mu → Prop) : Prop :=
  (if x5 < 0 then F_X12_putPlace_119 u P else (if x6 < 0 then F_X12_putPlace_119 u P else (if x7 < 0 then F_X12_putPlace_119 u P else (if 0 ≤ s0 then (0 ≤ x1 ∧ x1 < 60420 ∧ F_X12_putCorner x5 x6 (mI u 36 x1) u (fun u_138 => (if x4 = 0 then F_X12_putPlace_168 x1 u_138 P else F_X12_put 58 u_138 (fun u_149 => F_X12_putCorner x7 s0 (bShr (mI u_149 36 x1) 2) u_149 (fun u_165 => F_X12_putPlace_168 x1 u_165 P))))) else F_X12_putPlace_119 u P))))
theorem T_X12_putPlace_97  {x1 : Int} {x4 : Int} {x5 : Int} {x6 : Int} {x7 : Int} {s0 : Int} {u : Mu} {P : Mu → Prop} {h : Hp} {g : Nat → Nat} (r_x1 : R32 x1) (r_x4 : R32 x4) (r_x5 : R32 x5) (r_x6 : R32 x6) (r_x7 : R32 x7) (r_s0 : R32 s0) (m : Ms h g u)   (H : F_X12_putPlace_97 x1 x4 x5 x6 x7 s0 u P) : J mX12_putPlace 8 0 0 (nx (QMV g P)) 97 [some (vr (some (g 0))), some (ii (x1)), none, none, some (ii (x4)), some (ii (x5)), some (ii (x6)), some (ii (x7)), none] [ii (s0)] h := by
  unfold F_X12_putPlace_97 at H
  refine j_istore (dk dt_X12_putPlace 58 rfl) (by decide) ?_
  refine j_iload (dk dt_X12_putPlace 59 rfl) rfl ?_
  refine jz_if_lt 119 (dk dt_X12_putPlace 60 rfl) (by decide) r_x5 H (fun H => ?_) (fun H => ?_)
  · exact j_el (T_X12_putPlace_119  m   H) (And.intro rfl trivial)
  · refine j_iload (dk dt_X12_putPlace 61 rfl) rfl ?_
    refine jz_if_lt 119 (dk dt_X12_putPlace 62 rfl) (by decide) r_x6 H (fun H => ?_) (fun H => ?_)
    · exact j_el (T_X12_putPlace_119  m   H) (And.intro rfl trivial)
    · refine j_iload (dk dt_X12_putPlace 63 rfl) rfl ?_
      refine jz_if_lt 119 (dk dt_X12_putPlace 64 rfl) (by decide) r_x7 H (fun H => ?_) (fun H => ?_)
      · exact j_el (T_X12_putPlace_119  m   H) (And.intro rfl trivial)
      · refine j_iload (dk dt_X12_putPlace 65 rfl) rfl ?_
        refine jz_if_ge 127 (dk dt_X12_putPlace 66 rfl) (by decide) r_s0 H (fun H => ?_) (fun H => ?_)
        · refine j_aload_n (dk dt_X12_putPlace 71 rfl) rfl ?_
          refine j_iload (dk dt_X12_putPlace 72 rfl) rfl ?_
          refine j_iload (dk dt_X12_putPlace 73 rfl) rfl ?_
          refine j_aload_n (dk dt_X12_putPlace 74 rfl) rfl ?_
          refine jm_getA (dk dt_X12_putPlace 75 rfl) fl_X12_97 rfl (c := 14) rfl m ?_
          refine j_iload_n (dk dt_X12_putPlace 76 rfl) rfl ?_
          obtain ⟨p_137, q_137, H⟩ := H
          refine jm_iald (dk dt_X12_putPlace 77 rfl) rfl rfl m p_137 q_137 ?_
          refine jz_callV3 (dk dt_X12_putPlace 78 rfl) vl_X12_790 rfl (T_X12_putCorner r_x5 r_x6 (m.2.1.1 _ _) m H) m.1.1 rfl (by decide) (Nat.zero_le _) (Nat.zero_le _) (Nat.le_of_ble_eq_true rfl) (fun v_138 h_138 P_138 => ?_)
          obtain ⟨u_138, rfl, m_138, H⟩ := P_138
          dsimp only [rs]
          refine j_iload (dk dt_X12_putPlace 79 rfl) rfl ?_
          refine jz_if_eq 168 (dk dt_X12_putPlace 80 rfl) (by decide) r_x4 H (fun H => ?_) (fun H => ?_)
          · exact j_el (T_X12_putPlace_168 r_x1 m_138   H) (And.intro rfl (And.intro rfl trivial))
          · refine j_aload_n (dk dt_X12_putPlace 81 rfl) rfl ?_
            refine j_bipush (v := Int32.ofInt 58) (dk dt_X12_putPlace 82 rfl) (by decide) ?_
            refine jz_callV1 (dk dt_X12_putPlace 83 rfl) vl_X12_749 rfl (T_X12_put (by decide) m_138 H) m_138.1.1 rfl (by decide) (Nat.zero_le _) (Nat.zero_le _) (Nat.le_of_ble_eq_true rfl) (fun v_149 h_149 P_149 => ?_)
            obtain ⟨u_149, rfl, m_149, H⟩ := P_149
            dsimp only [rs]
            refine j_aload_n (dk dt_X12_putPlace 84 rfl) rfl ?_
            refine j_iload (dk dt_X12_putPlace 85 rfl) rfl ?_
            refine j_iload (dk dt_X12_putPlace 86 rfl) rfl ?_
            refine j_aload_n (dk dt_X12_putPlace 87 rfl) rfl ?_
            refine jm_getA (dk dt_X12_putPlace 88 rfl) fl_X12_97 rfl (c := 14) rfl m_149 ?_
            refine j_iload_n (dk dt_X12_putPlace 89 rfl) rfl ?_
            refine jm_iald (dk dt_X12_putPlace 90 rfl) rfl rfl m_149 p_137 q_137 ?_
            refine j_iconst (v := Int32.ofInt 2) (dk dt_X12_putPlace 91 rfl) (by decide) ?_
            refine jz_ishr (dk dt_X12_putPlace 92 rfl) ?_
            refine jz_callV3 (dk dt_X12_putPlace 93 rfl) vl_X12_790 rfl (T_X12_putCorner r_x7 r_s0 (r32_t _) m_149 H) m_149.1.1 rfl (by decide) (Nat.zero_le _) (Nat.zero_le _) (Nat.le_of_ble_eq_true rfl) (fun v_165 h_165 P_165 => ?_)
            obtain ⟨u_165, rfl, m_165, H⟩ := P_165
            dsimp only [rs]
            exact j_el (T_X12_putPlace_168 r_x1 m_165   H) (And.intro rfl (And.intro rfl trivial))
        · exact j_el (T_X12_putPlace_119  m   H) (And.intro rfl trivial)
def F_X12_putPlace_74  (x1 : Int) (x3 : Int) (x4 : Int) (x5 : Int) (x6 : Int) (s0 : Int) (u : Mu) (P : Mu → Prop) : Prop :=
  (if x4 = 0 then F_X12_putPlace_97 x1 x4 x5 x6 s0 0 u P else (0 ≤ x1 ∧ x1 < 60420 ∧ F_X12_placeOf x3 1 (mI u 35 x1) u (fun x_90 => F_X12_putPlace_97 x1 x4 x5 x6 s0 x_90 u P)))
theorem T_X12_putPlace_74  {x1 : Int} {x3 : Int} {x4 : Int} {x5 : Int} {x6 : Int} {s0 : Int} {u : Mu} {P : Mu → Prop} {h : Hp} {g : Nat → Nat} (r_x1 : R32 x1) (r_x3 : R32 x3) (r_x4 : R32 x4) (r_x5 : R32 x5) (r_x6 : R32 x6) (r_s0 : R32 s0) (m : Ms h g u)   (H : F_X12_putPlace_74 x1 x3 x4 x5 x6 s0 u P) : J mX12_putPlace 8 0 0 (nx (QMV g P)) 74 [some (vr (some (g 0))), some (ii (x1)), none, some (ii (x3)), some (ii (x4)), some (ii (x5)), some (ii (x6)), none, none] [ii (s0)] h := by
  unfold F_X12_putPlace_74 at H
  refine j_istore (dk dt_X12_putPlace 45 rfl) (by decide) ?_
  refine j_iload (dk dt_X12_putPlace 46 rfl) rfl ?_
  refine jz_if_eq 96 (dk dt_X12_putPlace 47 rfl) (by decide) r_x4 H (fun H => ?_) (fun H => ?_)
  · refine j_iconst (v := Int32.ofInt 0) (dk dt_X12_putPlace 57 rfl) (by decide) ?_
    exact j_el (T_X12_putPlace_97 r_x1 r_x4 r_x5 r_x6 r_s0 (by decide) m   H) (And.intro rfl (And.intro rfl (And.intro rfl (And.intro rfl (And.intro rfl (And.intro rfl trivial))))))
  · refine j_aload_n (dk dt_X12_putPlace 48 rfl) rfl ?_
    refine j_iload_n (dk dt_X12_putPlace 49 rfl) rfl ?_
    refine j_iconst (v := Int32.ofInt 1) (dk dt_X12_putPlace 50 rfl) (by decide) ?_
    refine j_aload_n (dk dt_X12_putPlace 51 rfl) rfl ?_
    refine jm_getA (dk dt_X12_putPlace 52 rfl) fl_X12_94 rfl (c := 14) rfl m ?_
    refine j_iload_n (dk dt_X12_putPlace 53 rfl) rfl ?_
    obtain ⟨p_89, q_89, H⟩ := H
    refine jm_iald (dk dt_X12_putPlace 54 rfl) rfl rfl m p_89 q_89 ?_
    refine jz_callV3 (dk dt_X12_putPlace 55 rfl) vl_X12_217 rfl (T_X12_placeOf r_x3 (by decide) (m.2.1.1 _ _) m H) m.1.1 rfl (by decide) (Nat.zero_le _) (Nat.zero_le _) (Nat.le_of_ble_eq_true rfl) (fun v_90 h_90 P_90 => ?_)
    obtain ⟨x_90, rfl, r_90, rfl, H⟩ := P_90
    dsimp only [rs]
    refine j_goto 97 (dk dt_X12_putPlace 56 rfl) (by decide) ?_
    exact j_el (T_X12_putPlace_97 r_x1 r_x4 r_x5 r_x6 r_s0 r_90 m   H) (And.intro rfl (And.intro rfl (And.intro rfl (And.intro rfl (And.intro rfl (And.intro rfl trivial))))))
def F_X12_putPlace_23  (x1 : Int) (x3 : Int) (s0 : Int) (u : Mu) (P : Mu → Prop) : Prop :=
  (0 ≤ x1 ∧ x1 < 60420 ∧ F_X12_placeOf x3 0 (mI u 32 x1) u (fun x_34 => (0 ≤ x1 ∧ x1 < 60420 ∧ F_X12_placeOf x3 1 (mI u 33 x1) u (fun x_48 => (if s0 = 0 then F_X12_putPlace_74 x1 x3 s0 x_34 x_48 0 u P else (0 ≤ x1 ∧ x1 < 60420 ∧ F_X12_placeOf x3 0 (mI u 34 x1) u (fun x_67 => F_X12_putPlace_74 x1 x3 s0 x_34 x_48 x_67 u P)))))))
theorem T_X12_putPlace_23  {x1 : Int} {x3 : Int} {s0 : Int} {u : Mu} {P : Mu → Prop} {h : Hp} {g : Nat → Nat} (r_x1 : R32 x1) (r_x3 : R32 x3) (r_s0 : R32 s0) (m : Ms h g u)   (H : F_X12_putPlace_23 x1 x3 s0 u P) : J mX12_putPlace 8 0 0 (nx (QMV g P)) 23 [some (vr (some (g 0))), some (ii (x1)), none, some (ii (x3)), none, none, none, none, none] [ii (s0)] h := by
  unfold F_X12_putPlace_23 at H
  refine j_istore (dk dt_X12_putPlace 14 rfl) (by decide) ?_
  refine j_aload_n (dk dt_X12_putPlace 15 rfl) rfl ?_
  refine j_iload_n (dk dt_X12_putPlace 16 rfl) rfl ?_
  refine j_iconst (v := Int32.ofInt 0) (dk dt_X12_putPlace 17 rfl) (by decide) ?_
  refine j_aload_n (dk dt_X12_putPlace 18 rfl) rfl ?_
  refine jm_getA (dk dt_X12_putPlace 19 rfl) fl_X12_85 rfl (c := 14) rfl m ?_
  refine j_iload_n (dk dt_X12_putPlace 20 rfl) rfl ?_
  obtain ⟨p_33, q_33, H⟩ := H
  refine jm_iald (dk dt_X12_putPlace 21 rfl) rfl rfl m p_33 q_33 ?_
  refine jz_callV3 (dk dt_X12_putPlace 22 rfl) vl_X12_217 rfl (T_X12_placeOf r_x3 (by decide) (m.2.1.1 _ _) m H) m.1.1 rfl (by decide) (Nat.zero_le _) (Nat.zero_le _) (Nat.le_of_ble_eq_true rfl) (fun v_34 h_34 P_34 => ?_)
  obtain ⟨x_34, rfl, r_34, rfl, H⟩ := P_34
  dsimp only [rs]
  refine j_istore (dk dt_X12_putPlace 23 rfl) (by decide) ?_
  refine j_aload_n (dk dt_X12_putPlace 24 rfl) rfl ?_
  refine j_iload_n (dk dt_X12_putPlace 25 rfl) rfl ?_
  refine j_iconst (v := Int32.ofInt 1) (dk dt_X12_putPlace 26 rfl) (by decide) ?_
  refine j_aload_n (dk dt_X12_putPlace 27 rfl) rfl ?_
  refine jm_getA (dk dt_X12_putPlace 28 rfl) fl_X12_88 rfl (c := 14) rfl m ?_
  refine j_iload_n (dk dt_X12_putPlace 29 rfl) rfl ?_
  obtain ⟨p_47, q_47, H⟩ := H
  refine jm_iald (dk dt_X12_putPlace 30 rfl) rfl rfl m p_47 q_47 ?_
  refine jz_callV3 (dk dt_X12_putPlace 31 rfl) vl_X12_217 rfl (T_X12_placeOf r_x3 (by decide) (m.2.1.1 _ _) m H) m.1.1 rfl (by decide) (Nat.zero_le _) (Nat.zero_le _) (Nat.le_of_ble_eq_true rfl) (fun v_48 h_48 P_48 => ?_)
  obtain ⟨x_48, rfl, r_48, rfl, H⟩ := P_48
  dsimp only [rs]
  refine j_istore (dk dt_X12_putPlace 32 rfl) (by decide) ?_
  refine j_iload (dk dt_X12_putPlace 33 rfl) rfl ?_
  refine jz_if_eq 73 (dk dt_X12_putPlace 34 rfl) (by decide) r_s0 H (fun H => ?_) (fun H => ?_)
  · refine j_iconst (v := Int32.ofInt 0) (dk dt_X12_putPlace 44 rfl) (by decide) ?_
    exact j_el (T_X12_putPlace_74 r_x1 r_x3 r_s0 r_34 r_48 (by decide) m   H) (And.intro rfl (And.intro rfl (And.intro rfl (And.intro rfl (And.intro rfl (And.intro rfl trivial))))))
  · refine j_aload_n (dk dt_X12_putPlace 35 rfl) rfl ?_
    refine j_iload_n (dk dt_X12_putPlace 36 rfl) rfl ?_
    refine j_iconst (v := Int32.ofInt 0) (dk dt_X12_putPlace 37 rfl) (by decide) ?_
    refine j_aload_n (dk dt_X12_putPlace 38 rfl) rfl ?_
    refine jm_getA (dk dt_X12_putPlace 39 rfl) fl_X12_91 rfl (c := 14) rfl m ?_
    refine j_iload_n (dk dt_X12_putPlace 40 rfl) rfl ?_
    obtain ⟨p_66, q_66, H⟩ := H
    refine jm_iald (dk dt_X12_putPlace 41 rfl) rfl rfl m p_66 q_66 ?_
    refine jz_callV3 (dk dt_X12_putPlace 42 rfl) vl_X12_217 rfl (T_X12_placeOf r_x3 (by decide) (m.2.1.1 _ _) m H) m.1.1 rfl (by decide) (Nat.zero_le _) (Nat.zero_le _) (Nat.le_of_ble_eq_true rfl) (fun v_67 h_67 P_67 => ?_)
    obtain ⟨x_67, rfl, r_67, rfl, H⟩ := P_67
    dsimp only [rs]
    refine j_goto 74 (dk dt_X12_putPlace 43 rfl) (by decide) ?_
    exact j_el (T_X12_putPlace_74 r_x1 r_x3 r_s0 r_34 r_48 r_67 m   H) (And.intro rfl (And.intro rfl (And.intro rfl (And.intro rfl (And.intro rfl (And.intro rfl trivial))))))
def F_X12_putPlace  (x1 : Int) (x2 : Int) (u : Mu) (P : Mu → Prop) : Prop :=
  F_X12_sheetOf x1 x2 u (fun x_3 => (0 ≤ x1 ∧ x1 < 60420 ∧ (if mI u 26 x1 = 6 then F_X12_putPlace_23 x1 x_3 1 u P else F_X12_putPlace_23 x1 x_3 0 u P)))
theorem T_X12_putPlace  {x1 : Int} {x2 : Int} {u : Mu} {P : Mu → Prop} {h : Hp} {g : Nat → Nat} (r_x1 : R32 x1) (r_x2 : R32 x2) (m : Ms h g u)  (H : F_X12_putPlace x1 x2 u P) : Con mX12_putPlace 8 0 0 [vr (some (g 0)), ii (x1), ii (x2)] h (QMV g P) := by
  refine con_of rfl (Nat.le_of_ble_eq_true rfl) (by decide) ?_
  show J mX12_putPlace 8 0 0 _ 0 [some (vr (some (g 0))), some (ii (x1)), some (ii (x2)), none, none, none, none, none, none] [] h
  unfold F_X12_putPlace at H
  refine j_aload_n (dk dt_X12_putPlace 0 rfl) rfl ?_
  refine j_iload_n (dk dt_X12_putPlace 1 rfl) rfl ?_
  refine j_iload_n (dk dt_X12_putPlace 2 rfl) rfl ?_
  refine jz_callV2 (dk dt_X12_putPlace 3 rfl) vl_X12_558 rfl (T_X12_sheetOf r_x1 r_x2 m H) m.1.1 rfl (by decide) (Nat.zero_le _) (Nat.zero_le _) (Nat.le_of_ble_eq_true rfl) (fun v_3 h_3 P_3 => ?_)
  obtain ⟨x_3, rfl, r_3, rfl, H⟩ := P_3
  dsimp only [rs]
  refine j_istore_n (dk dt_X12_putPlace 4 rfl) (by decide) ?_
  refine j_aload_n (dk dt_X12_putPlace 5 rfl) rfl ?_
  refine jm_getA (dk dt_X12_putPlace 6 rfl) fl_X12_67 rfl (c := 14) rfl m ?_
  refine j_iload_n (dk dt_X12_putPlace 7 rfl) rfl ?_
  obtain ⟨p_12, q_12, H⟩ := H
  refine jm_iald (dk dt_X12_putPlace 8 rfl) rfl rfl m p_12 q_12 ?_
  refine j_bipush (v := Int32.ofInt 6) (dk dt_X12_putPlace 9 rfl) (by decide) ?_
  refine jz_icmp_ne 22 (dk dt_X12_putPlace 10 rfl) (by decide) (m.2.1.1 _ _) (by decide) H (fun H => ?_) (fun H => ?_)
  · refine j_iconst (v := Int32.ofInt 1) (dk dt_X12_putPlace 11 rfl) (by decide) ?_
    refine j_goto 23 (dk dt_X12_putPlace 12 rfl) (by decide) ?_
    exact j_el (T_X12_putPlace_23 r_x1 r_3 (by decide) m   H) (And.intro rfl (And.intro rfl (And.intro rfl trivial)))
  · refine j_iconst (v := Int32.ofInt 0) (dk dt_X12_putPlace 13 rfl) (by decide) ?_
    exact j_el (T_X12_putPlace_23 r_x1 r_3 (by decide) m   H) (And.intro rfl (And.intro rfl (And.intro rfl trivial)))
def F_X12_signOf  (x0 : Int) (P : Nat → Prop) : Prop :=
  (if x0 = 10 then P 32 else (if x0 = 11 then P 33 else (if x0 = 12 then P 34 else (if x0 = 13 then P 35 else (if x0 = 14 then P 36 else (if x0 = 15 then P 37 else (if x0 = 16 then P 38 else (if x0 = 17 then P 39 else (if x0 = 18 then P 40 else (if x0 = 19 then P 41 else (if x0 = 20 then P 42 else P 43)))))))))))
theorem T_X12_signOf  {x0 : Int} {P : Nat → Prop} {h : Hp} (r_x0 : R32 x0)   (H : F_X12_signOf x0 P) : Con mX12_signOf 1 0 0 [ii (x0)] h (QPS h P) := by
  refine con_of rfl (Nat.le_of_ble_eq_true rfl) (by decide) ?_
  show J mX12_signOf 1 0 0 _ 0 [some (ii (x0))] [] h
  unfold F_X12_signOf at H
  refine j_iload_n (dk dt_X12_signOf 0 rfl) rfl ?_
  by_cases y_1_0 : x0 = 10
  · rw [if_pos y_1_0] at H
    refine jz_tabIn 10 60 (dk dt_X12_signOf 1 rfl) r_x0 y_1_0 (by decide) (by decide) rfl (by decide) ?_
    refine j_ldcwS 32 rfl (dk dt_X12_signOf 2 rfl) rfl rfl ?_
    exact j_areturnS (dk dt_X12_signOf 3 rfl) rfl rfl ⟨_, rfl, rfl, H⟩
  rw [if_neg y_1_0] at H
  by_cases y_1_1 : x0 = 11
  · rw [if_pos y_1_1] at H
    refine jz_tabIn 11 64 (dk dt_X12_signOf 1 rfl) r_x0 y_1_1 (by decide) (by decide) rfl (by decide) ?_
    refine j_ldcwS 33 rfl (dk dt_X12_signOf 4 rfl) rfl rfl ?_
    exact j_areturnS (dk dt_X12_signOf 5 rfl) rfl rfl ⟨_, rfl, rfl, H⟩
  rw [if_neg y_1_1] at H
  by_cases y_1_2 : x0 = 12
  · rw [if_pos y_1_2] at H
    refine jz_tabIn 12 68 (dk dt_X12_signOf 1 rfl) r_x0 y_1_2 (by decide) (by decide) rfl (by decide) ?_
    refine j_ldcwS 34 rfl (dk dt_X12_signOf 6 rfl) rfl rfl ?_
    exact j_areturnS (dk dt_X12_signOf 7 rfl) rfl rfl ⟨_, rfl, rfl, H⟩
  rw [if_neg y_1_2] at H
  by_cases y_1_3 : x0 = 13
  · rw [if_pos y_1_3] at H
    refine jz_tabIn 13 72 (dk dt_X12_signOf 1 rfl) r_x0 y_1_3 (by decide) (by decide) rfl (by decide) ?_
    refine j_ldcwS 35 rfl (dk dt_X12_signOf 8 rfl) rfl rfl ?_
    exact j_areturnS (dk dt_X12_signOf 9 rfl) rfl rfl ⟨_, rfl, rfl, H⟩
  rw [if_neg y_1_3] at H
  by_cases y_1_4 : x0 = 14
  · rw [if_pos y_1_4] at H
    refine jz_tabIn 14 76 (dk dt_X12_signOf 1 rfl) r_x0 y_1_4 (by decide) (by decide) rfl (by decide) ?_
    refine j_ldcwS 36 rfl (dk dt_X12_signOf 10 rfl) rfl rfl ?_
    exact j_areturnS (dk dt_X12_signOf 11 rfl) rfl rfl ⟨_, rfl, rfl, H⟩
  rw [if_neg y_1_4] at H
  by_cases y_1_5 : x0 = 15
  · rw [if_pos y_1_5] at H
    refine jz_tabIn 15 80 (dk dt_X12_signOf 1 rfl) r_x0 y_1_5 (by decide) (by decide) rfl (by decide) ?_
    refine j_ldcwS 37 rfl (dk dt_X12_signOf 12 rfl) rfl rfl ?_
    exact j_areturnS (dk dt_X12_signOf 13 rfl) rfl rfl ⟨_, rfl, rfl, H⟩
  rw [if_neg y_1_5] at H
  by_cases y_1_6 : x0 = 16
  · rw [if_pos y_1_6] at H
    refine jz_tabIn 16 84 (dk dt_X12_signOf 1 rfl) r_x0 y_1_6 (by decide) (by decide) rfl (by decide) ?_
    refine j_ldcwS 38 rfl (dk dt_X12_signOf 14 rfl) rfl rfl ?_
    exact j_areturnS (dk dt_X12_signOf 15 rfl) rfl rfl ⟨_, rfl, rfl, H⟩
  rw [if_neg y_1_6] at H
  by_cases y_1_7 : x0 = 17
  · rw [if_pos y_1_7] at H
    refine jz_tabIn 17 88 (dk dt_X12_signOf 1 rfl) r_x0 y_1_7 (by decide) (by decide) rfl (by decide) ?_
    refine j_ldcwS 39 rfl (dk dt_X12_signOf 16 rfl) rfl rfl ?_
    exact j_areturnS (dk dt_X12_signOf 17 rfl) rfl rfl ⟨_, rfl, rfl, H⟩
  rw [if_neg y_1_7] at H
  by_cases y_1_8 : x0 = 18
  · rw [if_pos y_1_8] at H
    refine jz_tabIn 18 92 (dk dt_X12_signOf 1 rfl) r_x0 y_1_8 (by decide) (by decide) rfl (by decide) ?_
    refine j_ldcwS 40 rfl (dk dt_X12_signOf 18 rfl) rfl rfl ?_
    exact j_areturnS (dk dt_X12_signOf 19 rfl) rfl rfl ⟨_, rfl, rfl, H⟩
  rw [if_neg y_1_8] at H
  by_cases y_1_9 : x0 = 19
  · rw [if_pos y_1_9] at H
    refine jz_tabIn 19 96 (dk dt_X12_signOf 1 rfl) r_x0 y_1_9 (by decide) (by decide) rfl (by decide) ?_
    refine j_ldcwS 41 rfl (dk dt_X12_signOf 20 rfl) rfl rfl ?_
    exact j_areturnS (dk dt_X12_signOf 21 rfl) rfl rfl ⟨_, rfl, rfl, H⟩
  rw [if_neg y_1_9] at H
  by_cases y_1_10 : x0 = 20
  · rw [if_pos y_1_10] at H
    refine jz_tabIn 20 100 (dk dt_X12_signOf 1 rfl) r_x0 y_1_10 (by decide) (by decide) rfl (by decide) ?_
    refine j_ldcwS 42 rfl (dk dt_X12_signOf 22 rfl) rfl rfl ?_
    exact j_areturnS (dk dt_X12_signOf 23 rfl) rfl rfl ⟨_, rfl, rfl, H⟩
  rw [if_neg y_1_10] at H
  refine jz_tabOut 104 (dk dt_X12_signOf 1 rfl) r_x0 (by omega) (by decide) ?_
  refine j_ldcwS 43 rfl (dk dt_X12_signOf 24 rfl) rfl rfl ?_
  exact j_areturnS (dk dt_X12_signOf 25 rfl) rfl rfl ⟨_, rfl, rfl, H⟩
