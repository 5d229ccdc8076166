def F_X12_isSheet  (x1 : Int) (u : Mu) (P : Int → Prop) : Prop :=
  F_X12_in x1 (-1) (w32 ((mI u 0 8) - 1)) (fun x_8 => (Z1 x_8 ∧ P x_8))
theorem T_X12_isSheet  {x1 : Int} {u : Mu} {P : Int → Prop} {h : Hp} {g : Nat → Nat} (r_x1 : R32 x1) (m : Ms h g u)  (H : F_X12_isSheet x1 u P) : Con mX12_isSheet 2 0 0 [vr (some (g 0)), ii (x1)] h (QPI h P) := by
  refine con_of rfl (Nat.le_of_ble_eq_true rfl) (by decide) ?_
  show J mX12_isSheet 2 0 0 _ 0 [some (vr (some (g 0))), some (ii (x1))] [] h
  unfold F_X12_isSheet at H
  refine j_iload_n (dk dt_X12_isSheet 0 rfl) rfl ?_
  refine j_iconst (v := Int32.ofInt (-1)) (dk dt_X12_isSheet 1 rfl) (by decide) ?_
  refine j_aload_n (dk dt_X12_isSheet 2 rfl) rfl ?_
  refine jm_getI (kz := 8) (dk dt_X12_isSheet 3 rfl) fl_X12_33 rfl rfl m ?_
  refine j_iconst (v := Int32.ofInt 1) (dk dt_X12_isSheet 4 rfl) (by decide) ?_
  refine jz_isub (dk dt_X12_isSheet 5 rfl) ?_
  refine j_callS3 (dk dt_X12_isSheet 6 rfl) sl_X12_220 (T_X12_in r_x1 (by decide) (r32_w _) H) rfl (by decide) (Nat.zero_le _) (Nat.zero_le _) (Nat.le_of_ble_eq_true rfl) (fun v_8 h_8 P_8 => ?_)
  obtain ⟨x_8, rfl, r_8, rfl, H⟩ := P_8
  dsimp only [rs]
  obtain ⟨hz_, H⟩ := H
  exact j_ireturn (dk dt_X12_isSheet 7 rfl) rfl (nar_z hz_) ⟨_, rfl, r_8, rfl, H⟩
def F_X12_sheetAt_10  (s0 : Int) (P : Int → Prop) : Prop :=
  P s0
theorem T_X12_sheetAt_10  {s0 : Int} {P : Int → Prop} {h : Hp} (r_s0 : R32 s0)    (H : F_X12_sheetAt_10 s0 P) : J mX12_sheetAt 1 0 0 (nx (QPI h P)) 10 [none] [ii (s0)] h := by
  unfold F_X12_sheetAt_10 at H
  exact j_ireturn (dk dt_X12_sheetAt 5 rfl) rfl rfl ⟨_, rfl, r_s0, rfl, H⟩
def F_X12_sheetAt  (x0 : Int) (P : Int → Prop) : Prop :=
  (if 0 ≤ x0 then F_X12_sheetAt_10 x0 P else F_X12_sheetAt_10 40 P)
theorem T_X12_sheetAt  {x0 : Int} {P : Int → Prop} {h : Hp} (r_x0 : R32 x0)   (H : F_X12_sheetAt x0 P) : Con mX12_sheetAt 1 0 0 [ii (x0)] h (QPI h P) := by
  refine con_of rfl (Nat.le_of_ble_eq_true rfl) (by decide) ?_
  show J mX12_sheetAt 1 0 0 _ 0 [some (ii (x0))] [] h
  unfold F_X12_sheetAt at H
  refine j_iload_n (dk dt_X12_sheetAt 0 rfl) rfl ?_
  refine jz_if_ge 9 (dk dt_X12_sheetAt 1 rfl) (by decide) r_x0 H (fun H => ?_) (fun H => ?_)
  · refine j_iload_n (dk dt_X12_sheetAt 4 rfl) rfl ?_
    exact j_el (T_X12_sheetAt_10 r_x0    H) trivial
  · refine j_bipush (v := Int32.ofInt 40) (dk dt_X12_sheetAt 2 rfl) (by decide) ?_
    refine j_goto 10 (dk dt_X12_sheetAt 3 rfl) (by decide) ?_
    exact j_el (T_X12_sheetAt_10 (by decide)    H) trivial
def F_X12_asked_21  (u : Mu) (P : Int → Prop) : Prop :=
  P (-1)
theorem T_X12_asked_21  {u : Mu} {P : Int → Prop} {h : Hp} {g : Nat → Nat}  (m : Ms h g u)   (H : F_X12_asked_21 u P) : J mX12_asked 3 0 0 (nx (QPI h P)) 21 [none, none, none, none] [] h := by
  unfold F_X12_asked_21 at H
  refine j_iconst (v := Int32.ofInt (-1)) (dk dt_X12_asked 11 rfl) (by decide) ?_
  exact j_ireturn (dk dt_X12_asked 12 rfl) rfl rfl ⟨_, rfl, (by decide), rfl, H⟩
def F_X12_asked  (x1 : Int) (x2 : Int) (x3 : Int) (u : Mu) (P : Int → Prop) : Prop :=
  F_X12_isSheet x1 u (fun x_2 => (if x_2 = 0 then F_X12_asked_21 u P else F_X12_sheetAt x1 (fun x_10 => F_X12_isCell x_10 x2 x3 u (fun x_15 => (if x_15 = 0 then F_X12_asked_21 u P else F_X12_sheetAt x1 (fun x_27 => P (w32 ((w32 (w32 (w32 (320 * x_27) + (w32 (10 * (w32 (x2 - 1))))) + x3)) - 1))))))))
theorem T_X12_asked  {x1 : Int} {x2 : Int} {x3 : Int} {u : Mu} {P : Int → Prop} {h : Hp} {g : Nat → Nat} (r_x1 : R32 x1) (r_x2 : R32 x2) (r_x3 : R32 x3) (m : Ms h g u)  (H : F_X12_asked x1 x2 x3 u P) : Con mX12_asked 3 0 0 [vr (some (g 0)), ii (x1), ii (x2), ii (x3)] h (QPI h P) := by
  refine con_of rfl (Nat.le_of_ble_eq_true rfl) (by decide) ?_
  show J mX12_asked 3 0 0 _ 0 [some (vr (some (g 0))), some (ii (x1)), some (ii (x2)), some (ii (x3))] [] h
  unfold F_X12_asked at H
  refine j_aload_n (dk dt_X12_asked 0 rfl) rfl ?_
  refine j_iload_n (dk dt_X12_asked 1 rfl) rfl ?_
  refine jz_callV1 (dk dt_X12_asked 2 rfl) vl_X12_734 rfl (T_X12_isSheet r_x1 m H) m.1.1 rfl (by decide) (Nat.zero_le _) (Nat.zero_le _) (Nat.le_of_ble_eq_true rfl) (fun v_2 h_2 P_2 => ?_)
  obtain ⟨x_2, rfl, r_2, rfl, H⟩ := P_2
  dsimp only [rs]
  refine jz_if_eq 21 (dk dt_X12_asked 3 rfl) (by decide) r_2 H (fun H => ?_) (fun H => ?_)
  · exact j_el (T_X12_asked_21  m   H) trivial
  · refine j_aload_n (dk dt_X12_asked 4 rfl) rfl ?_
    refine j_iload_n (dk dt_X12_asked 5 rfl) rfl ?_
    refine j_callS1 (dk dt_X12_asked 6 rfl) sl_X12_737 (T_X12_sheetAt r_x1 H) rfl (by decide) (Nat.zero_le _) (Nat.zero_le _) (Nat.le_of_ble_eq_true rfl) (fun v_10 h_10 P_10 => ?_)
    obtain ⟨x_10, rfl, r_10, rfl, H⟩ := P_10
    dsimp only [rs]
    refine j_iload_n (dk dt_X12_asked 7 rfl) rfl ?_
    refine j_iload_n (dk dt_X12_asked 8 rfl) rfl ?_
    refine jz_callV3 (dk dt_X12_asked 9 rfl) vl_X12_321 rfl (T_X12_isCell r_10 r_x2 r_x3 m H) m.1.1 rfl (by decide) (Nat.zero_le _) (Nat.zero_le _) (Nat.le_of_ble_eq_true rfl) (fun v_15 h_15 P_15 => ?_)
    obtain ⟨x_15, rfl, r_15, rfl, H⟩ := P_15
    dsimp only [rs]
    refine jz_if_ne 23 (dk dt_X12_asked 10 rfl) (by decide) r_15 H (fun H => ?_) (fun H => ?_)
    · exact j_el (T_X12_asked_21  m   H) trivial
    · refine j_sipush (v := Int32.ofInt 320) (dk dt_X12_asked 13 rfl) (by decide) ?_
      refine j_iload_n (dk dt_X12_asked 14 rfl) rfl ?_
      refine j_callS1 (dk dt_X12_asked 15 rfl) sl_X12_737 (T_X12_sheetAt r_x1 H) rfl (by decide) (Nat.zero_le _) (Nat.zero_le _) (Nat.le_of_ble_eq_true rfl) (fun v_27 h_27 P_27 => ?_)
      obtain ⟨x_27, rfl, r_27, rfl, H⟩ := P_27
      dsimp only [rs]
      refine jz_imul (dk dt_X12_asked 16 rfl) ?_
      refine j_bipush (v := Int32.ofInt 10) (dk dt_X12_asked 17 rfl) (by decide) ?_
      refine j_iload_n (dk dt_X12_asked 18 rfl) rfl ?_
      refine j_iconst (v := Int32.ofInt 1) (dk dt_X12_asked 19 rfl) (by decide) ?_
      refine jz_isub (dk dt_X12_asked 20 rfl) ?_
      refine jz_imul (dk dt_X12_asked 21 rfl) ?_
      refine jz_iadd (dk dt_X12_asked 22 rfl) ?_
      refine j_iload_n (dk dt_X12_asked 23 rfl) rfl ?_
      refine jz_iadd (dk dt_X12_asked 24 rfl) ?_
      refine j_iconst (v := Int32.ofInt 1) (dk dt_X12_asked 25 rfl) (by decide) ?_
      refine jz_isub (dk dt_X12_asked 26 rfl) ?_
      exact j_ireturn (dk dt_X12_asked 27 rfl) rfl rfl ⟨_, rfl, (r32_w _), rfl, H⟩
def F_X12_unsettled_27  (x2 : Int) (s0 : Int) (s1 : Int) (u : Mu) (P : (Int × Int) ⊕ ((Int)) → Prop) : Prop :=
  P (.inl (w32 (s0 + s1), w32 (x2 + 1)))
theorem T_X12_unsettled_27  {x2 : Int} {s0 : Int} {s1 : Int} {u : Mu} {P : (Int × Int) ⊕ ((Int)) → Prop} {h : Hp} {g : Nat → Nat} {post : Option Sv ⊕ String → Hp → Prop} (r_x2 : R32 x2) (r_s0 : R32 s0) (r_s1 : R32 s1) (m : Ms h g u)  (hl : ∀ (x1 : Int) (x2 : Int), P (.inl (x1, x2)) → R32 x1 → R32 x2 → J mX12_unsettled 1 0 0 post 4 [some (vr (some (g 0))), some (ii (x1)), some (ii (x2))] [] h) (he0 : ∀ (x1 : Int), P (.inr x1) → R32 x1 → J mX12_unsettled 1 0 0 post 35 [none, some (ii (x1)), none] [] h) (H : F_X12_unsettled_27 x2 s0 s1 u P) : J mX12_unsettled 1 0 0 (post) 27 [some (vr (some (g 0))), none, some (ii (x2))] [ii (s1), ii (s0)] h := by
  unfold F_X12_unsettled_27 at H
  refine jz_iadd (dk dt_X12_unsettled 17 rfl) ?_
  refine j_istore_n (dk dt_X12_unsettled 18 rfl) (by decide) ?_
  refine jz_iinc (dk dt_X12_unsettled 19 rfl) rfl ?_
  refine j_goto 4 (dk dt_X12_unsettled 20 rfl) (by decide) ?_
  exact j_el (hl _ _ H (r32_w _) (r32_w _)) (And.intro rfl (And.intro rfl (And.intro rfl trivial)))
def L_X12_unsettled_4  (x1 : Int) (x2 : Int) (u : Mu) (P : (Int × Int) ⊕ ((Int)) → Prop) : Prop :=
  (if mI u 0 98 ≤ x2 then P (.inr x1) else (0 ≤ x2 ∧ x2 < 370 ∧ (if mI u 97 x2 = 0 then F_X12_unsettled_27 x2 x1 1 u P else F_X12_unsettled_27 x2 x1 0 u P)))
theorem U_X12_unsettled_4  {x1 : Int} {x2 : Int} {u : Mu} {P : (Int × Int) ⊕ ((Int)) → Prop} {h : Hp} {g : Nat → Nat} {post : Option Sv ⊕ String → Hp → Prop} (r_x1 : R32 x1) (r_x2 : R32 x2) (m : Ms h g u)  (hl : ∀ (x1 : Int) (x2 : Int), P (.inl (x1, x2)) → R32 x1 → R32 x2 → J mX12_unsettled 1 0 0 post 4 [some (vr (some (g 0))), some (ii (x1)), some (ii (x2))] [] h) (he0 : ∀ (x1 : Int), P (.inr x1) → R32 x1 → J mX12_unsettled 1 0 0 post 35 [none, some (ii (x1)), none] [] h) (H : L_X12_unsettled_4 x1 x2 u P) : J mX12_unsettled 1 0 0 post 4 [some (vr (some (g 0))), some (ii (x1)), some (ii (x2))] [] h := by
  unfold L_X12_unsettled_4 at H
  refine j_iload_n (dk dt_X12_unsettled 4 rfl) rfl ?_
  refine j_aload_n (dk dt_X12_unsettled 5 rfl) rfl ?_
  refine jm_getI (kz := 98) (dk dt_X12_unsettled 6 rfl) fl_X12_868 rfl rfl m ?_
  refine jz_icmp_ge 35 (dk dt_X12_unsettled 7 rfl) (by decide) r_x2 (m.2.1.1 _ _) H (fun H => ?_) (fun H => ?_)
  · exact j_el (he0 _ H r_x1) (And.intro rfl trivial)
  · refine j_iload_n (dk dt_X12_unsettled 8 rfl) rfl ?_
    refine j_aload_n (dk dt_X12_unsettled 9 rfl) rfl ?_
    refine jm_getA (dk dt_X12_unsettled 10 rfl) fl_X12_183 rfl (c := 16) rfl m ?_
    refine j_iload_n (dk dt_X12_unsettled 11 rfl) rfl ?_
    obtain ⟨p_18, q_18, H⟩ := H
    refine jm_zald (dk dt_X12_unsettled 12 rfl) rfl rfl m p_18 q_18 ?_
    refine jz_if_eq 26 (dk dt_X12_unsettled 13 rfl) (by decide) (m.2.1.1 _ _) H (fun H => ?_) (fun H => ?_)
    · refine j_iconst (v := Int32.ofInt 1) (dk dt_X12_unsettled 16 rfl) (by decide) ?_
      exact j_el (T_X12_unsettled_27 r_x2 r_x1 (by decide) m  hl he0 H) (And.intro rfl (And.intro rfl trivial))
    · refine j_iconst (v := Int32.ofInt 0) (dk dt_X12_unsettled 14 rfl) (by decide) ?_
      refine j_goto 27 (dk dt_X12_unsettled 15 rfl) (by decide) ?_
      exact j_el (T_X12_unsettled_27 r_x2 r_x1 (by decide) m  hl he0 H) (And.intro rfl (And.intro rfl trivial))
def F_X12_unsettled_4  (x1 : Int) (x2 : Int) (u : Mu) (P : Int → Prop) : Prop :=
  lp (S := Int × Int) (E := (Int)) (fun q P_ => L_X12_unsettled_4 q.1 q.2 u P_) (x1, x2) (fun (x1 : Int) => P x1)
theorem T_X12_unsettled_4  {x1 : Int} {x2 : Int} {u : Mu} {P : Int → Prop} {h : Hp} {g : Nat → Nat} (r_x1 : R32 x1) (r_x2 : R32 x2) (m : Ms h g u)   (H : F_X12_unsettled_4 x1 x2 u P) : J mX12_unsettled 1 0 0 (nx (QPI h P)) 4 [some (vr (some (g 0))), some (ii (x1)), some (ii (x2))] [] h := by
  unfold F_X12_unsettled_4 at H
  refine lp_J (G := fun q => R32 (q.1) → R32 (q.2) → J mX12_unsettled 1 0 0 (nx (QPI h P)) 4 [some (vr (some (g 0))), some (ii ((q.1))), some (ii ((q.2)))] [] h) (fun q P_ hl_ he_ Hb => ?_) (x1, x2) H r_x1 r_x2
  obtain ⟨x1, x2⟩ := q
  intro r_x1 r_x2
  refine U_X12_unsettled_4 (P := P_) r_x1 r_x2 m  (fun x1 x2 Hp r_x1 r_x2 => hl_ (x1, x2) Hp r_x1 r_x2) ?_ Hb
  · intro x1 Hp r_x1
    have H := he_ _ Hp
    refine j_iload_n (dk dt_X12_unsettled 21 rfl) rfl ?_
    exact j_ireturn (dk dt_X12_unsettled 22 rfl) rfl rfl ⟨_, rfl, r_x1, rfl, H⟩
def F_X12_unsettled  (u : Mu) (P : Int → Prop) : Prop :=
  F_X12_unsettled_4 0 0 u P
theorem T_X12_unsettled  {u : Mu} {P : Int → Prop} {h : Hp} {g : Nat → Nat}  (m : Ms h g u)  (H : F_X12_unsettled u P) : Con mX12_unsettled 1 0 0 [vr (some (g 0))] h (QPI h P) := by
  refine con_of rfl (Nat.le_of_ble_eq_true rfl) (by decide) ?_
  show J mX12_unsettled 1 0 0 _ 0 [some (vr (some (g 0))), none, none] [] h
  unfold F_X12_unsettled at H
  refine j_iconst (v := Int32.ofInt 0) (dk dt_X12_unsettled 0 rfl) (by decide) ?_
  refine j_istore_n (dk dt_X12_unsettled 1 rfl) (by decide) ?_
  refine j_iconst (v := Int32.ofInt 0) (dk dt_X12_unsettled 2 rfl) (by decide) ?_
  refine j_istore_n (dk dt_X12_unsettled 3 rfl) (by decide) ?_
  exact j_el (T_X12_unsettled_4 (by decide) (by decide) m   H) (And.intro rfl (And.intro rfl (And.intro rfl trivial)))
def F_X12_bars_33  (s0 : Int) (u : Mu) (P : Int → Prop) : Prop :=
  P s0
theorem T_X12_bars_33  {s0 : Int} {u : Mu} {P : Int → Prop} {h : Hp} {g : Nat → Nat} (r_s0 : R32 s0) (m : Ms h g u)   (H : F_X12_bars_33 s0 u P) : J mX12_bars 2 0 0 (nx (QPI h P)) 33 [none, none] [ii (s0)] h := by
  unfold F_X12_bars_33 at H
  exact j_ireturn (dk dt_X12_bars 17 rfl) rfl rfl ⟨_, rfl, r_s0, rfl, H⟩
def F_X12_bars_26  (x1 : Int) (u : Mu) (P : Int → Prop) : Prop :=
  F_X12_bars_33 (w32 (x1 + 1)) u P
theorem T_X12_bars_26  {x1 : Int} {u : Mu} {P : Int → Prop} {h : Hp} {g : Nat → Nat} (r_x1 : R32 x1) (m : Ms h g u)   (H : F_X12_bars_26 x1 u P) : J mX12_bars 2 0 0 (nx (QPI h P)) 26 [none, some (ii (x1))] [] h := by
  unfold F_X12_bars_26 at H
  refine j_iload_n (dk dt_X12_bars 12 rfl) rfl ?_
  refine j_iconst (v := Int32.ofInt 1) (dk dt_X12_bars 13 rfl) (by decide) ?_
  refine jz_iadd (dk dt_X12_bars 14 rfl) ?_
  refine j_goto 33 (dk dt_X12_bars 15 rfl) (by decide) ?_
  exact j_el (T_X12_bars_33 (r32_w _) m   H) trivial
def F_X12_bars  (x1 : Int) (u : Mu) (P : Int → Prop) : Prop :=
  (if mI u 0 14 = 200 then P x1 else (if 0 ≤ mI u 0 13 then F_X12_bars_26 x1 u P else F_X12_unsettled u (fun x_20 => (if x_20 ≤ 0 then F_X12_bars_33 0 u P else F_X12_bars_26 x1 u P))))
theorem T_X12_bars  {x1 : Int} {u : Mu} {P : Int → Prop} {h : Hp} {g : Nat → Nat} (r_x1 : R32 x1) (m : Ms h g u)  (H : F_X12_bars x1 u P) : Con mX12_bars 2 0 0 [vr (some (g 0)), ii (x1)] h (QPI h P) := by
  refine con_of rfl (Nat.le_of_ble_eq_true rfl) (by decide) ?_
  show J mX12_bars 2 0 0 _ 0 [some (vr (some (g 0))), some (ii (x1))] [] h
  unfold F_X12_bars at H
  refine j_aload_n (dk dt_X12_bars 0 rfl) rfl ?_
  refine jm_getI (kz := 14) (dk dt_X12_bars 1 rfl) fl_X12_927 rfl rfl m ?_
  refine j_sipush (v := Int32.ofInt 200) (dk dt_X12_bars 2 rfl) (by decide) ?_
  refine jz_icmp_ne 12 (dk dt_X12_bars 3 rfl) (by decide) (m.2.1.1 _ _) (by decide) H (fun H => ?_) (fun H => ?_)
  · refine j_iload_n (dk dt_X12_bars 4 rfl) rfl ?_
    exact j_ireturn (dk dt_X12_bars 5 rfl) rfl rfl ⟨_, rfl, r_x1, rfl, H⟩
  · refine j_aload_n (dk dt_X12_bars 6 rfl) rfl ?_
    refine jm_getI (kz := 13) (dk dt_X12_bars 7 rfl) fl_X12_45 rfl rfl m ?_
    refine jz_if_ge 26 (dk dt_X12_bars 8 rfl) (by decide) (m.2.1.1 _ _) H (fun H => ?_) (fun H => ?_)
    · exact j_el (T_X12_bars_26 r_x1 m   H) (And.intro rfl trivial)
    · refine j_aload_n (dk dt_X12_bars 9 rfl) rfl ?_
      refine jz_callV0 (dk dt_X12_bars 10 rfl) vl_X12_871 rfl (T_X12_unsettled m H) m.1.1 rfl (by decide) (Nat.zero_le _) (Nat.zero_le _) (Nat.le_of_ble_eq_true rfl) (fun v_20 h_20 P_20 => ?_)
      obtain ⟨x_20, rfl, r_20, rfl, H⟩ := P_20
      dsimp only [rs]
      refine jz_if_le 32 (dk dt_X12_bars 11 rfl) (by decide) r_20 H (fun H => ?_) (fun H => ?_)
      · refine j_iconst (v := Int32.ofInt 0) (dk dt_X12_bars 16 rfl) (by decide) ?_
        exact j_el (T_X12_bars_33 (by decide) m   H) trivial
      · exact j_el (T_X12_bars_26 r_x1 m   H) (And.intro rfl trivial)
def F_X12_base_33  (u : Mu) (P : Int → Mu → Prop) : Prop :=
  P (-1) u
theorem T_X12_base_33  {u : Mu} {P : Int → Mu → Prop} {h : Hp} {g : Nat → Nat}  (m : Ms h g u)   (H : F_X12_base_33 u P) : J mX12_base 2 0 0 (nx (QMI g P)) 33 [none, none, none, none] [] h := by
  unfold F_X12_base_33 at H
  refine j_iconst (v := Int32.ofInt (-1)) (dk dt_X12_base 19 rfl) (by decide) ?_
  exact j_ireturn (dk dt_X12_base 20 rfl) rfl rfl ⟨_, _, rfl, (by decide), m, H⟩
def F_X12_base_78  (x3 : Int) (u : Mu) (P : Int ⊕ ((Int)) → Prop) : Prop :=
  P (.inl (w32 (x3 + (-1))))
theorem T_X12_base_78  {x3 : Int} {u : Mu} {P : Int ⊕ ((Int)) → Prop} {h : Hp} {g : Nat → Nat} {post : Option Sv ⊕ String → Hp → Prop} (r_x3 : R32 x3) (m : Ms h g u)  (hl : ∀ (x3 : Int), P (.inl x3) → R32 x3 → J mX12_base 2 0 0 post 60 [some (vr (some (g 0))), none, none, some (ii (x3))] [] h) (he0 : ∀ (x3 : Int), P (.inr x3) → R32 x3 → J mX12_base 2 0 0 post 84 [none, none, none, some (ii (x3))] [] h) (H : F_X12_base_78 x3 u P) : J mX12_base 2 0 0 (post) 78 [some (vr (some (g 0))), none, none, some (ii (x3))] [] h := by
  unfold F_X12_base_78 at H
  refine jz_iinc (dk dt_X12_base 46 rfl) rfl ?_
  refine j_goto 60 (dk dt_X12_base 47 rfl) (by decide) ?_
  exact j_el (hl _ H (r32_w _)) (And.intro rfl (And.intro rfl trivial))
def L_X12_base_60  (x3 : Int) (u : Mu) (P : Int ⊕ ((Int)) → Prop) : Prop :=
  (0 ≤ x3 ∧ x3 < 40 ∧ (if mI u 89 x3 = 0 then F_X12_base_78 x3 u P else (0 ≤ x3 ∧ x3 < 40 ∧ (if mI u 90 x3 = 0 then F_X12_base_78 x3 u P else P (.inr x3)))))
theorem U_X12_base_60  {x3 : Int} {u : Mu} {P : Int ⊕ ((Int)) → Prop} {h : Hp} {g : Nat → Nat} {post : Option Sv ⊕ String → Hp → Prop} (r_x3 : R32 x3) (m : Ms h g u)  (hl : ∀ (x3 : Int), P (.inl x3) → R32 x3 → J mX12_base 2 0 0 post 60 [some (vr (some (g 0))), none, none, some (ii (x3))] [] h) (he0 : ∀ (x3 : Int), P (.inr x3) → R32 x3 → J mX12_base 2 0 0 post 84 [none, none, none, some (ii (x3))] [] h) (H : L_X12_base_60 x3 u P) : J mX12_base 2 0 0 post 60 [some (vr (some (g 0))), none, none, some (ii (x3))] [] h := by
  unfold L_X12_base_60 at H
  refine j_aload_n (dk dt_X12_base 36 rfl) rfl ?_
  refine jm_getA (dk dt_X12_base 37 rfl) fl_X12_159 rfl (c := 16) rfl m ?_
  refine j_iload_n (dk dt_X12_base 38 rfl) rfl ?_
  obtain ⟨p_65, q_65, H⟩ := H
  refine jm_zald (dk dt_X12_base 39 rfl) rfl rfl m p_65 q_65 ?_
  refine jz_if_eq 78 (dk dt_X12_base 40 rfl) (by decide) (m.2.1.1 _ _) H (fun H => ?_) (fun H => ?_)
  · exact j_el (T_X12_base_78 r_x3 m  hl he0 H) (And.intro rfl (And.intro rfl trivial))
  · refine j_aload_n (dk dt_X12_base 41 rfl) rfl ?_
    refine jm_getA (dk dt_X12_base 42 rfl) fl_X12_162 rfl (c := 16) rfl m ?_
    refine j_iload_n (dk dt_X12_base 43 rfl) rfl ?_
    obtain ⟨p_74, q_74, H⟩ := H
    refine jm_zald (dk dt_X12_base 44 rfl) rfl rfl m p_74 q_74 ?_
    refine jz_if_ne 84 (dk dt_X12_base 45 rfl) (by decide) (m.2.1.1 _ _) H (fun H => ?_) (fun H => ?_)
    · exact j_el (T_X12_base_78 r_x3 m  hl he0 H) (And.intro rfl (And.intro rfl trivial))
    · exact j_el (he0 _ H r_x3) (And.intro rfl trivial)
def F_X12_base_60  (x3 : Int) (u : Mu) (P : Int → Mu → Prop) : Prop :=
  lp (S := Int) (E := (Int)) (fun q P_ => L_X12_base_60 q u P_) x3 (fun (x3 : Int) => P x3 u)
theorem T_X12_base_60  {x3 : Int} {u : Mu} {P : Int → Mu → Prop} {h : Hp} {g : Nat → Nat} (r_x3 : R32 x3) (m : Ms h g u)   (H : F_X12_base_60 x3 u P) : J mX12_base 2 0 0 (nx (QMI g P)) 60 [some (vr (some (g 0))), none, none, some (ii (x3))] [] h := by
  unfold F_X12_base_60 at H
  refine lp_J (G := fun q => R32 (q) → J mX12_base 2 0 0 (nx (QMI g P)) 60 [some (vr (some (g 0))), none, none, some (ii ((q)))] [] h) (fun x3 P_ hl_ he_ Hb => ?_) x3 H r_x3
  intro r_x3
  refine U_X12_base_60 (P := P_) r_x3 m  (fun x3 Hp r_x3 => hl_ x3 Hp r_x3) ?_ Hb
  · intro x3 Hp r_x3
    have H := he_ _ Hp
    refine j_iload_n (dk dt_X12_base 48 rfl) rfl ?_
    exact j_ireturn (dk dt_X12_base 49 rfl) rfl rfl ⟨_, _, rfl, r_x3, m, H⟩
def F_X12_base  (x1 : Int) (x2 : Int) (u : Mu) (P : Int → Mu → Prop) : Prop :=
  (∀ u_2, u_2 = uI u 0 0 0 → F_X12_in x1 0 (w32 ((mI u_2 0 8) - 1)) (fun x_13 => (if x_13 = 0 then F_X12_base_33 u_2 P else F_X12_in x2 0 (w32 ((mI u_2 0 8) - 1)) (fun x_27 => (if x_27 = 0 then F_X12_base_33 u_2 P else F_X12_ancestors x1 89 u_2 (fun u_41 => F_X12_ancestors x2 90 u_41 (fun u_50 => F_X12_base_60 (w32 ((mI u_50 0 8) - 1)) u_50 P)))))))
theorem T_X12_base  {x1 : Int} {x2 : Int} {u : Mu} {P : Int → Mu → Prop} {h : Hp} {g : Nat → Nat} (r_x1 : R32 x1) (r_x2 : R32 x2) (m : Ms h g u)  (H : F_X12_base x1 x2 u P) : Con mX12_base 2 0 0 [vr (some (g 0)), ii (x1), ii (x2)] h (QMI g P) := by
  refine con_of rfl (Nat.le_of_ble_eq_true rfl) (by decide) ?_
  show J mX12_base 2 0 0 _ 0 [some (vr (some (g 0))), some (ii (x1)), some (ii (x2)), none] [] h
  unfold F_X12_base at H
  refine j_aload_n (dk dt_X12_base 0 rfl) rfl ?_
  refine j_iconst (v := Int32.ofInt 0) (dk dt_X12_base 1 rfl) (by decide) ?_
  refine jm_putI (kz := 0) (dk dt_X12_base 2 rfl) fl_X12_202 rfl rfl rfl rfl m (by decide) (fun h_2 m_2 => ?_)
  replace H := H _ rfl
  refine j_iload_n (dk dt_X12_base 3 rfl) rfl ?_
  refine j_iconst (v := Int32.ofInt 0) (dk dt_X12_base 4 rfl) (by decide) ?_
  refine j_aload_n (dk dt_X12_base 5 rfl) rfl ?_
  refine jm_getI (kz := 8) (dk dt_X12_base 6 rfl) fl_X12_33 rfl rfl m_2 ?_
  refine j_iconst (v := Int32.ofInt 1) (dk dt_X12_base 7 rfl) (by decide) ?_
  refine jz_isub (dk dt_X12_base 8 rfl) ?_
  refine j_callS3 (dk dt_X12_base 9 rfl) sl_X12_220 (T_X12_in r_x1 (by decide) (r32_w _) H) rfl (by decide) (Nat.zero_le _) (Nat.zero_le _) (Nat.le_of_ble_eq_true rfl) (fun v_13 h_13 P_13 => ?_)
  obtain ⟨x_13, rfl, r_13, rfl, H⟩ := P_13
  dsimp only [rs]
  refine jz_if_eq 33 (dk dt_X12_base 10 rfl) (by decide) r_13 H (fun H => ?_) (fun H => ?_)
  · exact j_el (T_X12_base_33  m_2   H) trivial
  · refine j_iload_n (dk dt_X12_base 11 rfl) rfl ?_
    refine j_iconst (v := Int32.ofInt 0) (dk dt_X12_base 12 rfl) (by decide) ?_
    refine j_aload_n (dk dt_X12_base 13 rfl) rfl ?_
    refine jm_getI (kz := 8) (dk dt_X12_base 14 rfl) fl_X12_33 rfl rfl m_2 ?_
    refine j_iconst (v := Int32.ofInt 1) (dk dt_X12_base 15 rfl) (by decide) ?_
    refine jz_isub (dk dt_X12_base 16 rfl) ?_
    refine j_callS3 (dk dt_X12_base 17 rfl) sl_X12_220 (T_X12_in r_x2 (by decide) (r32_w _) H) rfl (by decide) (Nat.zero_le _) (Nat.zero_le _) (Nat.le_of_ble_eq_true rfl) (fun v_27 h_27 P_27 => ?_)
    obtain ⟨x_27, rfl, r_27, rfl, H⟩ := P_27
    dsimp only [rs]
    refine jz_if_ne 35 (dk dt_X12_base 18 rfl) (by decide) r_27 H (fun H => ?_) (fun H => ?_)
    · exact j_el (T_X12_base_33  m_2   H) trivial
    · refine j_aload_n (dk dt_X12_base 21 rfl) rfl ?_
      refine j_iload_n (dk dt_X12_base 22 rfl) rfl ?_
      refine j_aload_n (dk dt_X12_base 23 rfl) rfl ?_
      refine jm_getA (dk dt_X12_base 24 rfl) fl_X12_159 rfl (c := 16) rfl m_2 ?_
      refine jz_callV2 (dk dt_X12_base 25 rfl) vl_X12_883 rfl (T_X12_ancestors r_x1 m_2 H) m_2.1.1 rfl (by decide) (Nat.zero_le _) (Nat.zero_le _) (Nat.le_of_ble_eq_true rfl) (fun v_41 h_41 P_41 => ?_)
      obtain ⟨u_41, rfl, m_41, H⟩ := P_41
      dsimp only [rs]
      refine j_aload_n (dk dt_X12_base 26 rfl) rfl ?_
      refine j_iload_n (dk dt_X12_base 27 rfl) rfl ?_
      refine j_aload_n (dk dt_X12_base 28 rfl) rfl ?_
      refine jm_getA (dk dt_X12_base 29 rfl) fl_X12_162 rfl (c := 16) rfl m_41 ?_
      refine jz_callV2 (dk dt_X12_base 30 rfl) vl_X12_883 rfl (T_X12_ancestors r_x2 m_41 H) m_41.1.1 rfl (by decide) (Nat.zero_le _) (Nat.zero_le _) (Nat.le_of_ble_eq_true rfl) (fun v_50 h_50 P_50 => ?_)
      obtain ⟨u_50, rfl, m_50, H⟩ := P_50
      dsimp only [rs]
      refine j_aload_n (dk dt_X12_base 31 rfl) rfl ?_
      refine jm_getI (kz := 8) (dk dt_X12_base 32 rfl) fl_X12_33 rfl rfl m_50 ?_
      refine j_iconst (v := Int32.ofInt 1) (dk dt_X12_base 33 rfl) (by decide) ?_
      refine jz_isub (dk dt_X12_base 34 rfl) ?_
      refine j_istore_n (dk dt_X12_base 35 rfl) (by decide) ?_
      exact j_el (T_X12_base_60 (r32_w _) m_50   H) (And.intro rfl (And.intro rfl trivial))
def L_X12_copySheet_26  (x1 : Int) (x2 : Int) (x3 : Int) (u : Mu) (P : (Int × Mu) ⊕ ((Mu)) → Prop) : Prop :=
  (if 32 ≤ x3 then P (.inr u) else (0 ≤ w32 (w32 (32 * x1) + x3) ∧ w32 (w32 (32 * x1) + x3) < 3904 ∧ (0 ≤ w32 (w32 (32 * x2) + x3) ∧ w32 (w32 (32 * x2) + x3) < 3904 ∧ (∀ u_53, u_53 = uI u 3 (w32 (w32 (32 * x2) + x3)) (mI u 3 (w32 (w32 (32 * x1) + x3))) → P (.inl (w32 (x3 + 1), u_53))))))
theorem U_X12_copySheet_26  {x1 : Int} {x2 : Int} {x3 : Int} {u : Mu} {P : (Int × Mu) ⊕ ((Mu)) → Prop} {h : Hp} {g : Nat → Nat} {post : Option Sv ⊕ String → Hp → Prop} (r_x1 : R32 x1) (r_x2 : R32 x2) (r_x3 : R32 x3) (m : Ms h g u)  (hl : ∀ (x3 : Int) (u : Mu) (h : Hp), P (.inl (x3, u)) → Ms h g u → R32 x3 → J mX12_copySheet 1 0 0 post 26 [some (vr (some (g 0))), some (ii (x1)), some (ii (x2)), some (ii (x3))] [] h) (he0 : ∀ (u : Mu) (h : Hp), P (.inr u) → Ms h g u → J mX12_copySheet 1 0 0 post 60 [some (vr (some (g 0))), some (ii (x1)), some (ii (x2)), none] [] h) (H : L_X12_copySheet_26 x1 x2 x3 u P) : J mX12_copySheet 1 0 0 post 26 [some (vr (some (g 0))), some (ii (x1)), some (ii (x2)), some (ii (x3))] [] h := by
  unfold L_X12_copySheet_26 at H
  refine j_iload_n (dk dt_X12_copySheet 18 rfl) rfl ?_
  refine j_bipush (v := Int32.ofInt 32) (dk dt_X12_copySheet 19 rfl) (by decide) ?_
  refine jz_icmp_ge 60 (dk dt_X12_copySheet 20 rfl) (by decide) r_x3 (by decide) H (fun H => ?_) (fun H => ?_)
  · exact j_el (he0 _ _ H m) (And.intro rfl (And.intro rfl (And.intro rfl trivial)))
  · refine j_aload_n (dk dt_X12_copySheet 21 rfl) rfl ?_
    refine jm_getA (dk dt_X12_copySheet 22 rfl) fl_X12_16 rfl (c := 14) rfl m ?_
    refine j_bipush (v := Int32.ofInt 32) (dk dt_X12_copySheet 23 rfl) (by decide) ?_
    refine j_iload_n (dk dt_X12_copySheet 24 rfl) rfl ?_
    refine jz_imul (dk dt_X12_copySheet 25 rfl) ?_
    refine j_iload_n (dk dt_X12_copySheet 26 rfl) rfl ?_
    refine jz_iadd (dk dt_X12_copySheet 27 rfl) ?_
    refine j_aload_n (dk dt_X12_copySheet 28 rfl) rfl ?_
    refine jm_getA (dk dt_X12_copySheet 29 rfl) fl_X12_16 rfl (c := 14) rfl m ?_
    refine j_bipush (v := Int32.ofInt 32) (dk dt_X12_copySheet 30 rfl) (by decide) ?_
    refine j_iload_n (dk dt_X12_copySheet 31 rfl) rfl ?_
    refine jz_imul (dk dt_X12_copySheet 32 rfl) ?_
    refine j_iload_n (dk dt_X12_copySheet 33 rfl) rfl ?_
    refine jz_iadd (dk dt_X12_copySheet 34 rfl) ?_
    obtain ⟨p_52, q_52, H⟩ := H
    refine jm_iald (dk dt_X12_copySheet 35 rfl) rfl rfl m p_52 q_52 ?_
    obtain ⟨p_53, q_53, H⟩ := H
    refine jm_iast (dk dt_X12_copySheet 36 rfl) rfl rfl m p_53 q_53 (m.2.1.1 _ _) (fun h_53 m_53 => ?_)
    replace H := H _ rfl
    refine jz_iinc (dk dt_X12_copySheet 37 rfl) rfl ?_
    refine j_goto 26 (dk dt_X12_copySheet 38 rfl) (by decide) ?_
    exact j_el (hl _ _ _ H m_53 (r32_w _)) (And.intro rfl (And.intro rfl (And.intro rfl (And.intro rfl trivial))))
def L_X12_copySheet_62  (x1 : Int) (x2 : Int) (x3 : Int) (u : Mu) (P : (Int × Mu) ⊕ ((Mu)) → Prop) : Prop :=
  (if 10 ≤ x3 then P (.inr u) else (0 ≤ w32 (w32 (10 * x1) + x3) ∧ w32 (w32 (10 * x1) + x3) < 1220 ∧ (0 ≤ w32 (w32 (10 * x2) + x3) ∧ w32 (w32 (10 * x2) + x3) < 1220 ∧ (∀ u_89, u_89 = uI u 4 (w32 (w32 (10 * x2) + x3)) (mI u 4 (w32 (w32 (10 * x1) + x3))) → P (.inl (w32 (x3 + 1), u_89))))))
theorem U_X12_copySheet_62  {x1 : Int} {x2 : Int} {x3 : Int} {u : Mu} {P : (Int × Mu) ⊕ ((Mu)) → Prop} {h : Hp} {g : Nat → Nat} {post : Option Sv ⊕ String → Hp → Prop} (r_x1 : R32 x1) (r_x2 : R32 x2) (r_x3 : R32 x3) (m : Ms h g u)  (hl : ∀ (x3 : Int) (u : Mu) (h : Hp), P (.inl (x3, u)) → Ms h g u → R32 x3 → J mX12_copySheet 1 0 0 post 62 [some (vr (some (g 0))), some (ii (x1)), some (ii (x2)), some (ii (x3))] [] h) (he0 : ∀ (u : Mu) (h : Hp), P (.inr u) → Ms h g u → J mX12_copySheet 1 0 0 post 96 [some (vr (some (g 0))), some (ii (x1)), some (ii (x2)), none] [] h) (H : L_X12_copySheet_62 x1 x2 x3 u P) : J mX12_copySheet 1 0 0 post 62 [some (vr (some (g 0))), some (ii (x1)), some (ii (x2)), some (ii (x3))] [] h := by
  unfold L_X12_copySheet_62 at H
  refine j_iload_n (dk dt_X12_copySheet 41 rfl) rfl ?_
  refine j_bipush (v := Int32.ofInt 10) (dk dt_X12_copySheet 42 rfl) (by decide) ?_
  refine jz_icmp_ge 96 (dk dt_X12_copySheet 43 rfl) (by decide) r_x3 (by decide) H (fun H => ?_) (fun H => ?_)
  · exact j_el (he0 _ _ H m) (And.intro rfl (And.intro rfl (And.intro rfl trivial)))
  · refine j_aload_n (dk dt_X12_copySheet 44 rfl) rfl ?_
    refine jm_getA (dk dt_X12_copySheet 45 rfl) fl_X12_19 rfl (c := 14) rfl m ?_
    refine j_bipush (v := Int32.ofInt 10) (dk dt_X12_copySheet 46 rfl) (by decide) ?_
    refine j_iload_n (dk dt_X12_copySheet 47 rfl) rfl ?_
    refine jz_imul (dk dt_X12_copySheet 48 rfl) ?_
    refine j_iload_n (dk dt_X12_copySheet 49 rfl) rfl ?_
    refine jz_iadd (dk dt_X12_copySheet 50 rfl) ?_
    refine j_aload_n (dk dt_X12_copySheet 51 rfl) rfl ?_
    refine jm_getA (dk dt_X12_copySheet 52 rfl) fl_X12_19 rfl (c := 14) rfl m ?_
    refine j_bipush (v := Int32.ofInt 10) (dk dt_X12_copySheet 53 rfl) (by decide) ?_
    refine j_iload_n (dk dt_X12_copySheet 54 rfl) rfl ?_
    refine jz_imul (dk dt_X12_copySheet 55 rfl) ?_
    refine j_iload_n (dk dt_X12_copySheet 56 rfl) rfl ?_
    refine jz_iadd (dk dt_X12_copySheet 57 rfl) ?_
    obtain ⟨p_88, q_88, H⟩ := H
    refine jm_iald (dk dt_X12_copySheet 58 rfl) rfl rfl m p_88 q_88 ?_
    obtain ⟨p_89, q_89, H⟩ := H
    refine jm_iast (dk dt_X12_copySheet 59 rfl) rfl rfl m p_89 q_89 (m.2.1.1 _ _) (fun h_89 m_89 => ?_)
    replace H := H _ rfl
    refine jz_iinc (dk dt_X12_copySheet 60 rfl) rfl ?_
    refine j_goto 62 (dk dt_X12_copySheet 61 rfl) (by decide) ?_
    exact j_el (hl _ _ _ H m_89 (r32_w _)) (And.intro rfl (And.intro rfl (And.intro rfl (And.intro rfl trivial))))
def L_X12_copySheet_98  (x1 : Int) (x2 : Int) (x3 : Int) (u : Mu) (P : (Int × Mu) ⊕ ((Mu)) → Prop) : Prop :=
  (if 320 ≤ x3 then P (.inr u) else (0 ≤ w32 (w32 (320 * x1) + x3) ∧ w32 (w32 (320 * x1) + x3) < 39040 ∧ (0 ≤ w32 (w32 (320 * x2) + x3) ∧ w32 (w32 (320 * x2) + x3) < 39040 ∧ (∀ u_128, u_128 = uI u 5 (w32 (w32 (320 * x2) + x3)) (mI u 5 (w32 (w32 (320 * x1) + x3))) → P (.inl (w32 (x3 + 1), u_128))))))
theorem U_X12_copySheet_98  {x1 : Int} {x2 : Int} {x3 : Int} {u : Mu} {P : (Int × Mu) ⊕ ((Mu)) → Prop} {h : Hp} {g : Nat → Nat} {post : Option Sv ⊕ String → Hp → Prop} (r_x1 : R32 x1) (r_x2 : R32 x2) (r_x3 : R32 x3) (m : Ms h g u)  (hl : ∀ (x3 : Int) (u : Mu) (h : Hp), P (.inl (x3, u)) → Ms h g u → R32 x3 → J mX12_copySheet 1 0 0 post 98 [some (vr (some (g 0))), some (ii (x1)), some (ii (x2)), some (ii (x3))] [] h) (he0 : ∀ (u : Mu) (h : Hp), P (.inr u) → Ms h g u → J mX12_copySheet 1 0 0 post 135 [some (vr (some (g 0))), none, some (ii (x2)), none] [] h) (H : L_X12_copySheet_98 x1 x2 x3 u P) : J mX12_copySheet 1 0 0 post 98 [some (vr (some (g 0))), some (ii (x1)), some (ii (x2)), some (ii (x3))] [] h := by
  unfold L_X12_copySheet_98 at H
  refine j_iload_n (dk dt_X12_copySheet 64 rfl) rfl ?_
  refine j_sipush (v := Int32.ofInt 320) (dk dt_X12_copySheet 65 rfl) (by decide) ?_
  refine jz_icmp_ge 135 (dk dt_X12_copySheet 66 rfl) (by decide) r_x3 (by decide) H (fun H => ?_) (fun H => ?_)
  · exact j_el (he0 _ _ H m) (And.intro rfl (And.intro rfl trivial))
  · refine j_aload_n (dk dt_X12_copySheet 67 rfl) rfl ?_
    refine jm_getA (dk dt_X12_copySheet 68 rfl) fl_X12_23 rfl (c := 14) rfl m ?_
    refine j_sipush (v := Int32.ofInt 320) (dk dt_X12_copySheet 69 rfl) (by decide) ?_
    refine j_iload_n (dk dt_X12_copySheet 70 rfl) rfl ?_
    refine jz_imul (dk dt_X12_copySheet 71 rfl) ?_
    refine j_iload_n (dk dt_X12_copySheet 72 rfl) rfl ?_
    refine jz_iadd (dk dt_X12_copySheet 73 rfl) ?_
    refine j_aload_n (dk dt_X12_copySheet 74 rfl) rfl ?_
    refine jm_getA (dk dt_X12_copySheet 75 rfl) fl_X12_23 rfl (c := 14) rfl m ?_
    refine j_sipush (v := Int32.ofInt 320) (dk dt_X12_copySheet 76 rfl) (by decide) ?_
    refine j_iload_n (dk dt_X12_copySheet 77 rfl) rfl ?_
    refine jz_imul (dk dt_X12_copySheet 78 rfl) ?_
    refine j_iload_n (dk dt_X12_copySheet 79 rfl) rfl ?_
    refine jz_iadd (dk dt_X12_copySheet 80 rfl) ?_
    obtain ⟨p_127, q_127, H⟩ := H
    refine jm_iald (dk dt_X12_copySheet 81 rfl) rfl rfl m p_127 q_127 ?_
    obtain ⟨p_128, q_128, H⟩ := H
    refine jm_iast (dk dt_X12_copySheet 82 rfl) rfl rfl m p_128 q_128 (m.2.1.1 _ _) (fun h_128 m_128 => ?_)
    replace H := H _ rfl
    refine jz_iinc (dk dt_X12_copySheet 83 rfl) rfl ?_
    refine j_goto 98 (dk dt_X12_copySheet 84 rfl) (by decide) ?_
    exact j_el (hl _ _ _ H m_128 (r32_w _)) (And.intro rfl (And.intro rfl (And.intro rfl (And.intro rfl trivial))))
def F_X12_copySheet_146  (u : Mu) (P : Mu → Prop) : Prop :=
  P u
theorem T_X12_copySheet_146  {u : Mu} {P : Mu → Prop} {h : Hp} {g : Nat → Nat}  (m : Ms h g u)   (H : F_X12_copySheet_146 u P) : J mX12_copySheet 1 0 0 (nx (QMV g P)) 146 [none, none, none, none] [] h := by
  unfold F_X12_copySheet_146 at H
  exact j_return (dk dt_X12_copySheet 91 rfl) rfl ⟨_, rfl, m, H⟩
def F_X12_copySheet_98  (x1 : Int) (x2 : Int) (x3 : Int) (u : Mu) (P : Mu → Prop) : Prop :=
  lp (S := Int × Mu) (E := (Mu)) (fun q P_ => L_X12_copySheet_98 x1 x2 q.1 q.2 P_) (x3, u) (fun (u : Mu) => (if x2 = 40 then (∀ u_143, u_143 = uI u 0 65 0 → F_X12_copySheet_146 u_143 P) else F_X12_copySheet_146 u P))
theorem T_X12_copySheet_98  {x1 : Int} {x2 : Int} {x3 : Int} {u : Mu} {P : Mu → Prop} {h : Hp} {g : Nat → Nat} (r_x1 : R32 x1) (r_x2 : R32 x2) (r_x3 : R32 x3) (m : Ms h g u)   (H : F_X12_copySheet_98 x1 x2 x3 u P) : J mX12_copySheet 1 0 0 (nx (QMV g P)) 98 [some (vr (some (g 0))), some (ii (x1)), some (ii (x2)), some (ii (x3))] [] h := by
  unfold F_X12_copySheet_98 at H
  refine lp_J (G := fun q => ∀ h : Hp, Ms h g (q.2) → R32 (q.1) → J mX12_copySheet 1 0 0 (nx (QMV g P)) 98 [some (vr (some (g 0))), some (ii (x1)), some (ii (x2)), some (ii ((q.1)))] [] h) (fun q P_ hl_ he_ Hb => ?_) (x3, u) H _ m r_x3
  obtain ⟨x3, u⟩ := q
  intro h m r_x3
  refine U_X12_copySheet_98 (P := P_) r_x1 r_x2 r_x3 m  (fun x3 u h Hp m r_x3 => hl_ (x3, u) Hp h m r_x3) ?_ Hb
  · intro u h Hp m
    have H := he_ _ Hp
    refine j_iload_n (dk dt_X12_copySheet 85 rfl) rfl ?_
    refine j_bipush (v := Int32.ofInt 40) (dk dt_X12_copySheet 86 rfl) (by decide) ?_
    refine jz_icmp_ne 146 (dk dt_X12_copySheet 87 rfl) (by decide) r_x2 (by decide) H (fun H => ?_) (fun H => ?_)
    · refine j_aload_n (dk dt_X12_copySheet 88 rfl) rfl ?_
      refine j_iconst (v := Int32.ofInt 0) (dk dt_X12_copySheet 89 rfl) (by decide) ?_
      refine jm_putI (kz := 65) (dk dt_X12_copySheet 90 rfl) fl_X12_205 rfl (nar_z (by decide)) (fit_z (by decide)) rfl m (by decide) (fun h_143 m_143 => ?_)
      replace H := H _ rfl
      exact j_el (T_X12_copySheet_146  m_143   H) trivial
    · exact j_el (T_X12_copySheet_146  m   H) trivial
def F_X12_copySheet_62  (x1 : Int) (x2 : Int) (x3 : Int) (u : Mu) (P : Mu → Prop) : Prop :=
  lp (S := Int × Mu) (E := (Mu)) (fun q P_ => L_X12_copySheet_62 x1 x2 q.1 q.2 P_) (x3, u) (fun (u : Mu) => F_X12_copySheet_98 x1 x2 0 u P)
theorem T_X12_copySheet_62  {x1 : Int} {x2 : Int} {x3 : Int} {u : Mu} {P : Mu → Prop} {h : Hp} {g : Nat → Nat} (r_x1 : R32 x1) (r_x2 : R32 x2) (r_x3 : R32 x3) (m : Ms h g u)   (H : F_X12_copySheet_62 x1 x2 x3 u P) : J mX12_copySheet 1 0 0 (nx (QMV g P)) 62 [some (vr (some (g 0))), some (ii (x1)), some (ii (x2)), some (ii (x3))] [] h := by
  unfold F_X12_copySheet_62 at H
  refine lp_J (G := fun q => ∀ h : Hp, Ms h g (q.2) → R32 (q.1) → J mX12_copySheet 1 0 0 (nx (QMV g P)) 62 [some (vr (some (g 0))), some (ii (x1)), some (ii (x2)), some (ii ((q.1)))] [] h) (fun q P_ hl_ he_ Hb => ?_) (x3, u) H _ m r_x3
  obtain ⟨x3, u⟩ := q
  intro h m r_x3
  refine U_X12_copySheet_62 (P := P_) r_x1 r_x2 r_x3 m  (fun x3 u h Hp m r_x3 => hl_ (x3, u) Hp h m r_x3) ?_ Hb
  · intro u h Hp m
    have H := he_ _ Hp
    refine j_iconst (v := Int32.ofInt 0) (dk dt_X12_copySheet 62 rfl) (by decide) ?_
    refine j_istore_n (dk dt_X12_copySheet 63 rfl) (by decide) ?_
    exact j_el (T_X12_copySheet_98 r_x1 r_x2 (by decide) m   H) (And.intro rfl (And.intro rfl (And.intro rfl (And.intro rfl trivial))))
def F_X12_copySheet_26  (x1 : Int) (x2 : Int) (x3 : Int) (u : Mu) (P : Mu → Prop) : Prop :=
  lp (S := Int × Mu) (E := (Mu)) (fun q P_ => L_X12_copySheet_26 x1 x2 q.1 q.2 P_) (x3, u) (fun (u : Mu) => F_X12_copySheet_62 x1 x2 0 u P)
theorem T_X12_copySheet_26  {x1 : Int} {x2 : Int} {x3 : Int} {u : Mu} {P : Mu → Prop} {h : Hp} {g : Nat → Nat} (r_x1 : R32 x1) (r_x2 : R32 x2) (r_x3 : R32 x3) (m : Ms h g u)   (H : F_X12_copySheet_26 x1 x2 x3 u P) : J mX12_copySheet 1 0 0 (nx (QMV g P)) 26 [some (vr (some (g 0))), some (ii (x1)), some (ii (x2)), some (ii (x3))] [] h := by
  unfold F_X12_copySheet_26 at H
  refine lp_J (G := fun q => ∀ h : Hp, Ms h g (q.2) → R32 (q.1) → J mX12_copySheet 1 0 0 (nx (QMV g P)) 26 [some (vr (some (g 0))), some (ii (x1)), some (ii (x2)), some (ii ((q.1)))] [] h) (fun q P_ hl_ he_ Hb => ?_) (x3, u) H _ m r_x3
  obtain ⟨x3, u⟩ := q
  intro h m r_x3
  refine U_X12_copySheet_26 (P := P_) r_x1 r_x2 r_x3 m  (fun x3 u h Hp m r_x3 => hl_ (x3, u) Hp h m r_x3) ?_ Hb
  · intro u h Hp m
    have H := he_ _ Hp
    refine j_iconst (v := Int32.ofInt 0) (dk dt_X12_copySheet 39 rfl) (by decide) ?_
    refine j_istore_n (dk dt_X12_copySheet 40 rfl) (by decide) ?_
    exact j_el (T_X12_copySheet_62 r_x1 r_x2 (by decide) m   H) (And.intro rfl (And.intro rfl (And.intro rfl (And.intro rfl trivial))))
def F_X12_copySheet  (x1 : Int) (x2 : Int) (u : Mu) (P : Mu → Prop) : Prop :=
  (0 ≤ x1 ∧ x1 < 122 ∧ (0 ≤ x2 ∧ x2 < 122 ∧ (∀ u_11, u_11 = uI u 1 x2 (mI u 1 x1) → (0 ≤ x1 ∧ x1 < 122 ∧ (0 ≤ x2 ∧ x2 < 122 ∧ (∀ u_23, u_23 = uI u_11 2 x2 (mI u_11 2 x1) → F_X12_copySheet_26 x1 x2 0 u_23 P))))))
theorem T_X12_copySheet  {x1 : Int} {x2 : Int} {u : Mu} {P : Mu → Prop} {h : Hp} {g : Nat → Nat} (r_x1 : R32 x1) (r_x2 : R32 x2) (m : Ms h g u)  (H : F_X12_copySheet x1 x2 u P) : Con mX12_copySheet 1 0 0 [vr (some (g 0)), ii (x1), ii (x2)] h (QMV g P) := by
  refine con_of rfl (Nat.le_of_ble_eq_true rfl) (by decide) ?_
  show J mX12_copySheet 1 0 0 _ 0 [some (vr (some (g 0))), some (ii (x1)), some (ii (x2)), none] [] h
  unfold F_X12_copySheet at H
  refine j_aload_n (dk dt_X12_copySheet 0 rfl) rfl ?_
  refine jm_getA (dk dt_X12_copySheet 1 rfl) fl_X12_7 rfl (c := 14) rfl m ?_
  refine j_iload_n (dk dt_X12_copySheet 2 rfl) rfl ?_
  refine j_aload_n (dk dt_X12_copySheet 3 rfl) rfl ?_
  refine jm_getA (dk dt_X12_copySheet 4 rfl) fl_X12_7 rfl (c := 14) rfl m ?_
  refine j_iload_n (dk dt_X12_copySheet 5 rfl) rfl ?_
  obtain ⟨p_10, q_10, H⟩ := H
  refine jm_iald (dk dt_X12_copySheet 6 rfl) rfl rfl m p_10 q_10 ?_
  obtain ⟨p_11, q_11, H⟩ := H
  refine jm_iast (dk dt_X12_copySheet 7 rfl) rfl rfl m p_11 q_11 (m.2.1.1 _ _) (fun h_11 m_11 => ?_)
  replace H := H _ rfl
  refine j_aload_n (dk dt_X12_copySheet 8 rfl) rfl ?_
  refine jm_getA (dk dt_X12_copySheet 9 rfl) fl_X12_13 rfl (c := 14) rfl m_11 ?_
  refine j_iload_n (dk dt_X12_copySheet 10 rfl) rfl ?_
  refine j_aload_n (dk dt_X12_copySheet 11 rfl) rfl ?_
  refine jm_getA (dk dt_X12_copySheet 12 rfl) fl_X12_13 rfl (c := 14) rfl m_11 ?_
  refine j_iload_n (dk dt_X12_copySheet 13 rfl) rfl ?_
  obtain ⟨p_22, q_22, H⟩ := H
  refine jm_iald (dk dt_X12_copySheet 14 rfl) rfl rfl m_11 p_22 q_22 ?_
  obtain ⟨p_23, q_23, H⟩ := H
  refine jm_iast (dk dt_X12_copySheet 15 rfl) rfl rfl m_11 p_23 q_23 (m_11.2.1.1 _ _) (fun h_23 m_23 => ?_)
  replace H := H _ rfl
  refine j_iconst (v := Int32.ofInt 0) (dk dt_X12_copySheet 16 rfl) (by decide) ?_
  refine j_istore_n (dk dt_X12_copySheet 17 rfl) (by decide) ?_
  exact j_el (T_X12_copySheet_26 r_x1 r_x2 (by decide) m_23   H) (And.intro rfl (And.intro rfl (And.intro rfl (And.intro rfl trivial))))
def F_X12_forgetSteps  (u : Mu) (P : Mu → Prop) : Prop :=
  (∀ u_2, u_2 = uI u 0 16 0 → (∀ u_7, u_7 = uI u_2 0 17 0 → P u_7))
theorem T_X12_forgetSteps  {u : Mu} {P : Mu → Prop} {h : Hp} {g : Nat → Nat}  (m : Ms h g u)  (H : F_X12_forgetSteps u P) : Con mX12_forgetSteps 1 0 0 [vr (some (g 0))] h (QMV g P) := by
  refine con_of rfl (Nat.le_of_ble_eq_true rfl) (by decide) ?_
  show J mX12_forgetSteps 1 0 0 _ 0 [some (vr (some (g 0)))] [] h
  unfold F_X12_forgetSteps at H
  refine j_aload_n (dk dt_X12_forgetSteps 0 rfl) rfl ?_
  refine j_iconst (v := Int32.ofInt 0) (dk dt_X12_forgetSteps 1 rfl) (by decide) ?_
  refine jm_putI (kz := 16) (dk dt_X12_forgetSteps 2 rfl) fl_X12_227 rfl rfl rfl rfl m (by decide) (fun h_2 m_2 => ?_)
  replace H := H _ rfl
  refine j_aload_n (dk dt_X12_forgetSteps 3 rfl) rfl ?_
  refine j_iconst (v := Int32.ofInt 0) (dk dt_X12_forgetSteps 4 rfl) (by decide) ?_
  refine jm_putI (kz := 17) (dk dt_X12_forgetSteps 5 rfl) fl_X12_230 rfl rfl rfl rfl m_2 (by decide) (fun h_7 m_7 => ?_)
  replace H := H _ rfl
  exact j_return (dk dt_X12_forgetSteps 6 rfl) rfl ⟨_, rfl, m_7, H⟩
def F_X12_become  (x1 : Int) (u : Mu) (P : Mu → Prop) : Prop :=
  F_X12_copySheet x1 40 u (fun u_4 => (∀ u_9, u_9 = uI u_4 0 13 (-1) → (∀ u_14, u_14 = uI u_9 0 98 0 → F_X12_forgetSteps u_14 (fun u_18 => P u_18))))
theorem T_X12_become  {x1 : Int} {u : Mu} {P : Mu → Prop} {h : Hp} {g : Nat → Nat} (r_x1 : R32 x1) (m : Ms h g u)  (H : F_X12_become x1 u P) : Con mX12_become 2 0 0 [vr (some (g 0)), ii (x1)] h (QMV g P) := by
  refine con_of rfl (Nat.le_of_ble_eq_true rfl) (by decide) ?_
  show J mX12_become 2 0 0 _ 0 [some (vr (some (g 0))), some (ii (x1))] [] h
  unfold F_X12_become at H
  refine j_aload_n (dk dt_X12_become 0 rfl) rfl ?_
  refine j_iload_n (dk dt_X12_become 1 rfl) rfl ?_
  refine j_bipush (v := Int32.ofInt 40) (dk dt_X12_become 2 rfl) (by decide) ?_
  refine jz_callV2 (dk dt_X12_become 3 rfl) vl_X12_198 rfl (T_X12_copySheet r_x1 (by decide) m H) m.1.1 rfl (by decide) (Nat.zero_le _) (Nat.zero_le _) (Nat.le_of_ble_eq_true rfl) (fun v_4 h_4 P_4 => ?_)
  obtain ⟨u_4, rfl, m_4, H⟩ := P_4
  dsimp only [rs]
  refine j_aload_n (dk dt_X12_become 4 rfl) rfl ?_
  refine j_iconst (v := Int32.ofInt (-1)) (dk dt_X12_become 5 rfl) (by decide) ?_
  refine jm_putI (kz := 13) (dk dt_X12_become 6 rfl) fl_X12_45 rfl rfl rfl rfl m_4 (by decide) (fun h_9 m_9 => ?_)
  replace H := H _ rfl
  refine j_aload_n (dk dt_X12_become 7 rfl) rfl ?_
  refine j_iconst (v := Int32.ofInt 0) (dk dt_X12_become 8 rfl) (by decide) ?_
  refine jm_putI (kz := 98) (dk dt_X12_become 9 rfl) fl_X12_868 rfl rfl rfl rfl m_9 (by decide) (fun h_14 m_14 => ?_)
  replace H := H _ rfl
  refine j_aload_n (dk dt_X12_become 10 rfl) rfl ?_
  refine jz_callV0 (dk dt_X12_become 11 rfl) vl_X12_874 rfl (T_X12_forgetSteps m_14 H) m_14.1.1 rfl (by decide) (Nat.zero_le _) (Nat.zero_le _) (Nat.le_of_ble_eq_true rfl) (fun v_18 h_18 P_18 => ?_)
  obtain ⟨u_18, rfl, m_18, H⟩ := P_18
  dsimp only [rs]
  exact j_return (dk dt_X12_become 12 rfl) rfl ⟨_, rfl, m_18, H⟩
def F_X12_bit_27  (s0 : Int) (u : Mu) (P : Int → Prop) : Prop :=
  (Z1 s0 ∧ P s0)
theorem T_X12_bit_27  {s0 : Int} {u : Mu} {P : Int → Prop} {h : Hp} {g : Nat → Nat} (r_s0 : R32 s0) (m : Ms h g u)   (H : F_X12_bit_27 s0 u P) : J mX12_bit 1 0 0 (nx (QPI h P)) 27 [none, none, none] [ii (s0)] h := by
  unfold F_X12_bit_27 at H
  obtain ⟨hz_, H⟩ := H
  exact j_ireturn (dk dt_X12_bit 21 rfl) rfl (nar_z hz_) ⟨_, rfl, r_s0, rfl, H⟩
def F_X12_bit  (x0 : Nat) (x1 : Int) (x2 : Int) (u : Mu) (P : Int → Prop) : Prop :=
  (mkl.getD x0 0 = 16 ∧ (0 ≤ w32 (w32 (5 * x1) + (w32 (Int.tdiv x2 64))) ∧ w32 (w32 (5 * x1) + (w32 (Int.tdiv x2 64))) < ((mnl.getD x0 0 : Nat) : Int) ∧ (if lAnd (lShr (mG u x0 (w32 (w32 (5 * x1) + (w32 (Int.tdiv x2 64))))) (w32 (Int.tmod x2 64))) 1 = 1 then F_X12_bit_27 1 u P else F_X12_bit_27 0 u P)))
theorem T_X12_bit  {x0 : Nat} {x1 : Int} {x2 : Int} {u : Mu} {P : Int → Prop} {h : Hp} {g : Nat → Nat} (r_x1 : R32 x1) (r_x2 : R32 x2) (m : Ms h g u)  (H : F_X12_bit x0 x1 x2 u P) : Con mX12_bit 1 0 0 [vr (some (g (x0))), ii (x1), ii (x2)] h (QPI h P) := by
  refine con_of rfl (Nat.le_of_ble_eq_true rfl) (by decide) ?_
  show J mX12_bit 1 0 0 _ 0 [some (vr (some (g (x0)))), some (ii (x1)), some (ii (x2))] [] h
  unfold F_X12_bit at H
  refine j_aload_n (dk dt_X12_bit 0 rfl) rfl ?_
  refine j_iconst (v := Int32.ofInt 5) (dk dt_X12_bit 1 rfl) (by decide) ?_
  refine j_iload_n (dk dt_X12_bit 2 rfl) rfl ?_
  refine jz_imul (dk dt_X12_bit 3 rfl) ?_
  refine j_iload_n (dk dt_X12_bit 4 rfl) rfl ?_
  refine j_bipush (v := Int32.ofInt 64) (dk dt_X12_bit 5 rfl) (by decide) ?_
  refine jz_idiv (dk dt_X12_bit 6 rfl) r_x2 (by decide) (by decide) ?_
  refine jz_iadd (dk dt_X12_bit 7 rfl) ?_
  obtain ⟨k_9, H⟩ := H
  obtain ⟨p_9, q_9, H⟩ := H
  refine jm_lald (dk dt_X12_bit 8 rfl) k_9 rfl m p_9 q_9 ?_
  refine j_iload_n (dk dt_X12_bit 9 rfl) rfl ?_
  refine j_bipush (v := Int32.ofInt 64) (dk dt_X12_bit 10 rfl) (by decide) ?_
  refine jz_irem (dk dt_X12_bit 11 rfl) r_x2 (by decide) (by decide) ?_
  refine jz_lshr (dk dt_X12_bit 12 rfl) ?_
  refine j_lconst (v := Int64.ofInt 1) (dk dt_X12_bit 13 rfl) (by decide) ?_
  refine jz_land (dk dt_X12_bit 14 rfl) ?_
  refine j_lconst (v := Int64.ofInt 1) (dk dt_X12_bit 15 rfl) (by decide) ?_
  refine jz_lcmp (dk dt_X12_bit 16 rfl) (r64_t _) (by decide) ?_
  refine jz_lif_ne 26 (dk dt_X12_bit 17 rfl) (by decide) H (fun H => ?_) (fun H => ?_)
  · refine j_iconst (v := Int32.ofInt 1) (dk dt_X12_bit 18 rfl) (by decide) ?_
    refine j_goto 27 (dk dt_X12_bit 19 rfl) (by decide) ?_
    exact j_el (T_X12_bit_27 (by decide) m   H) trivial
  · refine j_iconst (v := Int32.ofInt 0) (dk dt_X12_bit 20 rfl) (by decide) ?_
    exact j_el (T_X12_bit_27 (by decide) m   H) trivial
def F_X12_cellAt  (x1 : Int) (x2 : Int) (x3 : Int) (u : Mu) (P : Int → Prop) : Prop :=
  (0 ≤ w32 ((w32 (w32 (w32 (320 * x1) + (w32 (10 * (w32 (x2 - 1))))) + x3)) - 1) ∧ w32 ((w32 (w32 (w32 (320 * x1) + (w32 (10 * (w32 (x2 - 1))))) + x3)) - 1) < 39040 ∧ P (mI u 5 (w32 ((w32 (w32 (w32 (320 * x1) + (w32 (10 * (w32 (x2 - 1))))) + x3)) - 1))))
theorem T_X12_cellAt  {x1 : Int} {x2 : Int} {x3 : Int} {u : Mu} {P : Int → Prop} {h : Hp} {g : Nat → Nat} (r_x1 : R32 x1) (r_x2 : R32 x2) (r_x3 : R32 x3) (m : Ms h g u)  (H : F_X12_cellAt x1 x2 x3 u P) : Con mX12_cellAt 1 0 0 [vr (some (g 0)), ii (x1), ii (x2), ii (x3)] h (QPI h P) := by
  refine con_of rfl (Nat.le_of_ble_eq_true rfl) (by decide) ?_
  show J mX12_cellAt 1 0 0 _ 0 [some (vr (some (g 0))), some (ii (x1)), some (ii (x2)), some (ii (x3))] [] h
  unfold F_X12_cellAt at H
  refine j_aload_n (dk dt_X12_cellAt 0 rfl) rfl ?_
  refine jm_getA (dk dt_X12_cellAt 1 rfl) fl_X12_23 rfl (c := 14) rfl m ?_
  refine j_sipush (v := Int32.ofInt 320) (dk dt_X12_cellAt 2 rfl) (by decide) ?_
  refine j_iload_n (dk dt_X12_cellAt 3 rfl) rfl ?_
  refine jz_imul (dk dt_X12_cellAt 4 rfl) ?_
  refine j_bipush (v := Int32.ofInt 10) (dk dt_X12_cellAt 5 rfl) (by decide) ?_
  refine j_iload_n (dk dt_X12_cellAt 6 rfl) rfl ?_
  refine j_iconst (v := Int32.ofInt 1) (dk dt_X12_cellAt 7 rfl) (by decide) ?_
  refine jz_isub (dk dt_X12_cellAt 8 rfl) ?_
  refine jz_imul (dk dt_X12_cellAt 9 rfl) ?_
  refine jz_iadd (dk dt_X12_cellAt 10 rfl) ?_
  refine j_iload_n (dk dt_X12_cellAt 11 rfl) rfl ?_
  refine jz_iadd (dk dt_X12_cellAt 12 rfl) ?_
  refine j_iconst (v := Int32.ofInt 1) (dk dt_X12_cellAt 13 rfl) (by decide) ?_
  refine jz_isub (dk dt_X12_cellAt 14 rfl) ?_
  obtain ⟨p_20, q_20, H⟩ := H
  refine jm_iald (dk dt_X12_cellAt 15 rfl) rfl rfl m p_20 q_20 ?_
  exact j_ireturn (dk dt_X12_cellAt 16 rfl) rfl rfl ⟨_, rfl, (m.2.1.1 _ _), rfl, H⟩
def F_X12_contentOf_51  (s0 : Int) (u : Mu) (P : Int → Prop) : Prop :=
  P s0
theorem T_X12_contentOf_51  {s0 : Int} {u : Mu} {P : Int → Prop} {h : Hp} {g : Nat → Nat} (r_s0 : R32 s0) (m : Ms h g u)   (H : F_X12_contentOf_51 s0 u P) : J mX12_contentOf 3 0 0 (nx (QPI h P)) 51 [none, none, none, none, none, none] [ii (s0)] h := by
  unfold F_X12_contentOf_51 at H
  exact j_ireturn (dk dt_X12_contentOf 30 rfl) rfl rfl ⟨_, rfl, r_s0, rfl, H⟩
def F_X12_contentOf_28  (u : Mu) (P : Int → Prop) : Prop :=
  F_X12_contentOf_51 (-1) u P
theorem T_X12_contentOf_28  {u : Mu} {P : Int → Prop} {h : Hp} {g : Nat → Nat}  (m : Ms h g u)   (H : F_X12_contentOf_28 u P) : J mX12_contentOf 3 0 0 (nx (QPI h P)) 28 [none, none, none, none, none, none] [] h := by
  unfold F_X12_contentOf_28 at H
  refine j_iconst (v := Int32.ofInt (-1)) (dk dt_X12_contentOf 16 rfl) (by decide) ?_
  refine j_goto 51 (dk dt_X12_contentOf 17 rfl) (by decide) ?_
  exact j_el (T_X12_contentOf_51 (by decide) m   H) trivial
def F_X12_contentOf  (x1 : Int) (x2 : Int) (x3 : Int) (u : Mu) (P : Int → Prop) : Prop :=
  F_X12_placeOf x1 0 x2 u (fun x_4 => F_X12_placeOf x1 1 x3 u (fun x_13 => (if x_4 < 0 then F_X12_contentOf_28 u P else (if 0 ≤ x_13 then (0 ≤ w32 (w32 (w32 (320 * x1) + (w32 (10 * x_4))) + x_13) ∧ w32 (w32 (w32 (320 * x1) + (w32 (10 * x_4))) + x_13) < 39040 ∧ F_X12_contentOf_51 (mI u 5 (w32 (w32 (w32 (320 * x1) + (w32 (10 * x_4))) + x_13))) u P) else F_X12_contentOf_28 u P))))
theorem T_X12_contentOf  {x1 : Int} {x2 : Int} {x3 : Int} {u : Mu} {P : Int → Prop} {h : Hp} {g : Nat → Nat} (r_x1 : R32 x1) (r_x2 : R32 x2) (r_x3 : R32 x3) (m : Ms h g u)  (H : F_X12_contentOf x1 x2 x3 u P) : Con mX12_contentOf 3 0 0 [vr (some (g 0)), ii (x1), ii (x2), ii (x3)] h (QPI h P) := by
  refine con_of rfl (Nat.le_of_ble_eq_true rfl) (by decide) ?_
  show J mX12_contentOf 3 0 0 _ 0 [some (vr (some (g 0))), some (ii (x1)), some (ii (x2)), some (ii (x3)), none, none] [] h
  unfold F_X12_contentOf at H
  refine j_aload_n (dk dt_X12_contentOf 0 rfl) rfl ?_
  refine j_iload_n (dk dt_X12_contentOf 1 rfl) rfl ?_
  refine j_iconst (v := Int32.ofInt 0) (dk dt_X12_contentOf 2 rfl) (by decide) ?_
  refine j_iload_n (dk dt_X12_contentOf 3 rfl) rfl ?_
  refine jz_callV3 (dk dt_X12_contentOf 4 rfl) vl_X12_217 rfl (T_X12_placeOf r_x1 (by decide) r_x2 m H) m.1.1 rfl (by decide) (Nat.zero_le _) (Nat.zero_le _) (Nat.le_of_ble_eq_true rfl) (fun v_4 h_4 P_4 => ?_)
  obtain ⟨x_4, rfl, r_4, rfl, H⟩ := P_4
  dsimp only [rs]
  refine j_istore (dk dt_X12_contentOf 5 rfl) (by decide) ?_
  refine j_aload_n (dk dt_X12_contentOf 6 rfl) rfl ?_
  refine j_iload_n (dk dt_X12_contentOf 7 rfl) rfl ?_
  refine j_iconst (v := Int32.ofInt 1) (dk dt_X12_contentOf 8 rfl) (by decide) ?_
  refine j_iload_n (dk dt_X12_contentOf 9 rfl) rfl ?_
  refine jz_callV3 (dk dt_X12_contentOf 10 rfl) vl_X12_217 rfl (T_X12_placeOf r_x1 (by decide) r_x3 m H) m.1.1 rfl (by decide) (Nat.zero_le _) (Nat.zero_le _) (Nat.le_of_ble_eq_true rfl) (fun v_13 h_13 P_13 => ?_)
  obtain ⟨x_13, rfl, r_13, rfl, H⟩ := P_13
  dsimp only [rs]
  refine j_istore (dk dt_X12_contentOf 11 rfl) (by decide) ?_
  refine j_iload (dk dt_X12_contentOf 12 rfl) rfl ?_
  refine jz_if_lt 28 (dk dt_X12_contentOf 13 rfl) (by decide) r_4 H (fun H => ?_) (fun H => ?_)
  · exact j_el (T_X12_contentOf_28  m   H) trivial
  · refine j_iload (dk dt_X12_contentOf 14 rfl) rfl ?_
    refine jz_if_ge 32 (dk dt_X12_contentOf 15 rfl) (by decide) r_13 H (fun H => ?_) (fun H => ?_)
    · refine j_aload_n (dk dt_X12_contentOf 18 rfl) rfl ?_
      refine jm_getA (dk dt_X12_contentOf 19 rfl) fl_X12_23 rfl (c := 14) rfl m ?_
      refine j_sipush (v := Int32.ofInt 320) (dk dt_X12_contentOf 20 rfl) (by decide) ?_
      refine j_iload_n (dk dt_X12_contentOf 21 rfl) rfl ?_
      refine jz_imul (dk dt_X12_contentOf 22 rfl) ?_
      refine j_bipush (v := Int32.ofInt 10) (dk dt_X12_contentOf 23 rfl) (by decide) ?_
      refine j_iload (dk dt_X12_contentOf 24 rfl) rfl ?_
      refine jz_imul (dk dt_X12_contentOf 25 rfl) ?_
      refine jz_iadd (dk dt_X12_contentOf 26 rfl) ?_
      refine j_iload (dk dt_X12_contentOf 27 rfl) rfl ?_
      refine jz_iadd (dk dt_X12_contentOf 28 rfl) ?_
      obtain ⟨p_50, q_50, H⟩ := H
      refine jm_iald (dk dt_X12_contentOf 29 rfl) rfl rfl m p_50 q_50 ?_
      exact j_el (T_X12_contentOf_51 (m.2.1.1 _ _) m   H) trivial
    · exact j_el (T_X12_contentOf_28  m   H) trivial
def F_X12_hasLike_38  (s0 : Int) (u : Mu) (P : Int → Prop) : Prop :=
  (Z1 s0 ∧ P s0)
theorem T_X12_hasLike_38  {s0 : Int} {u : Mu} {P : Int → Prop} {h : Hp} {g : Nat → Nat} (r_s0 : R32 s0) (m : Ms h g u)   (H : F_X12_hasLike_38 s0 u P) : J mX12_hasLike 4 0 0 (nx (QPI h P)) 38 [none, none, none, none, none, none] [ii (s0)] h := by
  unfold F_X12_hasLike_38 at H
  obtain ⟨hz_, H⟩ := H
  exact j_ireturn (dk dt_X12_hasLike 20 rfl) rfl (nar_z hz_) ⟨_, rfl, r_s0, rfl, H⟩
def F_X12_hasLike_37  (u : Mu) (P : Int → Prop) : Prop :=
  F_X12_hasLike_38 0 u P
theorem T_X12_hasLike_37  {u : Mu} {P : Int → Prop} {h : Hp} {g : Nat → Nat}  (m : Ms h g u)   (H : F_X12_hasLike_37 u P) : J mX12_hasLike 4 0 0 (nx (QPI h P)) 37 [none, none, none, none, none, none] [] h := by
  unfold F_X12_hasLike_37 at H
  refine j_iconst (v := Int32.ofInt 0) (dk dt_X12_hasLike 19 rfl) (by decide) ?_
  exact j_el (T_X12_hasLike_38 (by decide) m   H) trivial
def F_X12_hasLike_15  (x4 : Int) (s0 : Int) (u : Mu) (P : Int → Prop) : Prop :=
  (if s0 < 0 then F_X12_hasLike_37 u P else F_X12_alike s0 x4 u (fun x_27 => (if x_27 = 0 then F_X12_hasLike_37 u P else F_X12_hasLike_38 1 u P)))
theorem T_X12_hasLike_15  {x4 : Int} {s0 : Int} {u : Mu} {P : Int → Prop} {h : Hp} {g : Nat → Nat} (r_x4 : R32 x4) (r_s0 : R32 s0) (m : Ms h g u)   (H : F_X12_hasLike_15 x4 s0 u P) : J mX12_hasLike 4 0 0 (nx (QPI h P)) 15 [some (vr (some (g 0))), none, none, none, some (ii (x4)), none] [ii (s0)] h := by
  unfold F_X12_hasLike_15 at H
  refine j_istore (dk dt_X12_hasLike 9 rfl) (by decide) ?_
  refine j_iload (dk dt_X12_hasLike 10 rfl) rfl ?_
  refine jz_if_lt 37 (dk dt_X12_hasLike 11 rfl) (by decide) r_s0 H (fun H => ?_) (fun H => ?_)
  · exact j_el (T_X12_hasLike_37  m   H) trivial
  · refine j_aload_n (dk dt_X12_hasLike 12 rfl) rfl ?_
    refine j_iload (dk dt_X12_hasLike 13 rfl) rfl ?_
    refine j_iload (dk dt_X12_hasLike 14 rfl) rfl ?_
    refine jz_callV2 (dk dt_X12_hasLike 15 rfl) vl_X12_865 rfl (T_X12_alike r_s0 r_x4 m H) m.1.1 rfl (by decide) (Nat.zero_le _) (Nat.zero_le _) (Nat.le_of_ble_eq_true rfl) (fun v_27 h_27 P_27 => ?_)
    obtain ⟨x_27, rfl, r_27, rfl, H⟩ := P_27
    dsimp only [rs]
    refine jz_if_eq 37 (dk dt_X12_hasLike 16 rfl) (by decide) r_27 H (fun H => ?_) (fun H => ?_)
    · exact j_el (T_X12_hasLike_37  m   H) trivial
    · refine j_iconst (v := Int32.ofInt 1) (dk dt_X12_hasLike 17 rfl) (by decide) ?_
      refine j_goto 38 (dk dt_X12_hasLike 18 rfl) (by decide) ?_
      exact j_el (T_X12_hasLike_38 (by decide) m   H) trivial
def F_X12_hasLike  (x1 : Int) (x2 : Int) (x3 : Int) (x4 : Int) (u : Mu) (P : Int → Prop) : Prop :=
  (if 0 ≤ x1 then F_X12_contentOf x1 x2 x3 u (fun x_12 => F_X12_hasLike_15 x4 x_12 u P) else F_X12_hasLike_15 x4 (-1) u P)
theorem T_X12_hasLike  {x1 : Int} {x2 : Int} {x3 : Int} {x4 : Int} {u : Mu} {P : Int → Prop} {h : Hp} {g : Nat → Nat} (r_x1 : R32 x1) (r_x2 : R32 x2) (r_x3 : R32 x3) (r_x4 : R32 x4) (m : Ms h g u)  (H : F_X12_hasLike x1 x2 x3 x4 u P) : Con mX12_hasLike 4 0 0 [vr (some (g 0)), ii (x1), ii (x2), ii (x3), ii (x4)] h (QPI h P) := by
  refine con_of rfl (Nat.le_of_ble_eq_true rfl) (by decide) ?_
  show J mX12_hasLike 4 0 0 _ 0 [some (vr (some (g 0))), some (ii (x1)), some (ii (x2)), some (ii (x3)), some (ii (x4)), none] [] h
  unfold F_X12_hasLike at H
  refine j_iload_n (dk dt_X12_hasLike 0 rfl) rfl ?_
  refine jz_if_ge 8 (dk dt_X12_hasLike 1 rfl) (by decide) r_x1 H (fun H => ?_) (fun H => ?_)
  · refine j_aload_n (dk dt_X12_hasLike 4 rfl) rfl ?_
    refine j_iload_n (dk dt_X12_hasLike 5 rfl) rfl ?_
    refine j_iload_n (dk dt_X12_hasLike 6 rfl) rfl ?_
    refine j_iload_n (dk dt_X12_hasLike 7 rfl) rfl ?_
    refine jz_callV3 (dk dt_X12_hasLike 8 rfl) vl_X12_887 rfl (T_X12_contentOf r_x1 r_x2 r_x3 m H) m.1.1 rfl (by decide) (Nat.zero_le _) (Nat.zero_le _) (Nat.le_of_ble_eq_true rfl) (fun v_12 h_12 P_12 => ?_)
    obtain ⟨x_12, rfl, r_12, rfl, H⟩ := P_12
    dsimp only [rs]
    exact j_el (T_X12_hasLike_15 r_x4 r_12 m   H) (And.intro rfl (And.intro rfl trivial))
  · refine j_iconst (v := Int32.ofInt (-1)) (dk dt_X12_hasLike 2 rfl) (by decide) ?_
    refine j_goto 15 (dk dt_X12_hasLike 3 rfl) (by decide) ?_
    exact j_el (T_X12_hasLike_15 r_x4 (by decide) m   H) (And.intro rfl (And.intro rfl trivial))
def F_X12_head  (u : Mu) (P : Int → Prop) : Prop :=
  (0 ≤ mI u 0 12 ∧ mI u 0 12 < 6 ∧ P (mI u 11 (mI u 0 12)))
theorem T_X12_head  {u : Mu} {P : Int → Prop} {h : Hp} {g : Nat → Nat}  (m : Ms h g u)  (H : F_X12_head u P) : Con mX12_head 1 0 0 [vr (some (g 0))] h (QPI h P) := by
  refine con_of rfl (Nat.le_of_ble_eq_true rfl) (by decide) ?_
  show J mX12_head 1 0 0 _ 0 [some (vr (some (g 0)))] [] h
  unfold F_X12_head at H
  refine j_aload_n (dk dt_X12_head 0 rfl) rfl ?_
  refine jm_getA (dk dt_X12_head 1 rfl) fl_X12_42 rfl (c := 14) rfl m ?_
  refine j_aload_n (dk dt_X12_head 2 rfl) rfl ?_
  refine jm_getI (kz := 12) (dk dt_X12_head 3 rfl) fl_X12_857 rfl rfl m ?_
  obtain ⟨p_8, q_8, H⟩ := H
  refine jm_iald (dk dt_X12_head 4 rfl) rfl rfl m p_8 q_8 ?_
  exact j_ireturn (dk dt_X12_head 5 rfl) rfl rfl ⟨_, rfl, (m.2.1.1 _ _), rfl, H⟩
def F_X12_throwing  (x1 : Int) (u : Mu) (P : Int → Mu → Prop) : Prop :=
  (∀ u_2, u_2 = uI u 0 0 x1 → P 0 u_2)
theorem T_X12_throwing  {x1 : Int} {u : Mu} {P : Int → Mu → Prop} {h : Hp} {g : Nat → Nat} (r_x1 : R32 x1) (m : Ms h g u)  (H : F_X12_throwing x1 u P) : Con mX12_throwing 1 0 0 [vr (some (g 0)), ii (x1)] h (QMI g P) := by
  refine con_of rfl (Nat.le_of_ble_eq_true rfl) (by decide) ?_
  show J mX12_throwing 1 0 0 _ 0 [some (vr (some (g 0))), some (ii (x1))] [] h
  unfold F_X12_throwing at H
  refine j_aload_n (dk dt_X12_throwing 0 rfl) rfl ?_
  refine j_iload_n (dk dt_X12_throwing 1 rfl) rfl ?_
  refine jm_putI (kz := 0) (dk dt_X12_throwing 2 rfl) fl_X12_202 rfl rfl rfl rfl m r_x1 (fun h_2 m_2 => ?_)
  replace H := H _ rfl
  refine j_iconst (v := Int32.ofInt 0) (dk dt_X12_throwing 3 rfl) (by decide) ?_
  exact j_ireturn (dk dt_X12_throwing 4 rfl) rfl rfl ⟨_, _, rfl, (by decide), m_2, H⟩
def L_X12_blame_80  (x3 : Int) (x4 : Int) (x5 : Int) (x6 : Int) (x7 : Int) (u : Mu) (P : (Int × Int) ⊕ ((Int)) → Prop) : Prop :=
  (if x7 = 0 then P (.inr x6) else (0 ≤ x6 ∧ x6 < 40 ∧ F_X12_hasLike (mI u 9 x6) x3 x4 x5 u (fun x_98 => (if x_98 = 0 then (0 ≤ x6 ∧ x6 < 40 ∧ F_X12_hasLike (mI u 10 x6) x3 x4 x5 u (fun x_129 => (if x_129 = 0 then P (.inl (x6, 0)) else P (.inl (mI u 10 x6, x7))))) else P (.inl (mI u 9 x6, x7))))))
theorem U_X12_blame_80  {x3 : Int} {x4 : Int} {x5 : Int} {x6 : Int} {x7 : Int} {u : Mu} {P : (Int × Int) ⊕ ((Int)) → Prop} {h : Hp} {g : Nat → Nat} {post : Option Sv ⊕ String → Hp → Prop} (r_x3 : R32 x3) (r_x4 : R32 x4) (r_x5 : R32 x5) (r_x6 : R32 x6) (r_x7 : R32 x7) (m : Ms h g u)  (hl : ∀ (x6 : Int) (x7 : Int), P (.inl (x6, x7)) → R32 x6 → R32 x7 → J mX12_blame 5 0 0 post 80 [some (vr (some (g 0))), none, none, some (ii (x3)), some (ii (x4)), some (ii (x5)), some (ii (x6)), some (ii (x7))] [] h) (he0 : ∀ (x6 : Int), P (.inr x6) → R32 x6 → J mX12_blame 5 0 0 post 153 [none, none, none, none, none, none, some (ii (x6)), none] [] h) (H : L_X12_blame_80 x3 x4 x5 x6 x7 u P) : J mX12_blame 5 0 0 post 80 [some (vr (some (g 0))), none, none, some (ii (x3)), some (ii (x4)), some (ii (x5)), some (ii (x6)), some (ii (x7))] [] h := by
  unfold L_X12_blame_80 at H
  refine j_iload (dk dt_X12_blame 49 rfl) rfl ?_
  refine jz_if_eq 153 (dk dt_X12_blame 50 rfl) (by decide) r_x7 H (fun H => ?_) (fun H => ?_)
  · exact j_el (he0 _ H r_x6) (And.intro rfl trivial)
  · refine j_aload_n (dk dt_X12_blame 51 rfl) rfl ?_
    refine j_aload_n (dk dt_X12_blame 52 rfl) rfl ?_
    refine jm_getA (dk dt_X12_blame 53 rfl) fl_X12_36 rfl (c := 14) rfl m ?_
    refine j_iload (dk dt_X12_blame 54 rfl) rfl ?_
    obtain ⟨p_92, q_92, H⟩ := H
    refine jm_iald (dk dt_X12_blame 55 rfl) rfl rfl m p_92 q_92 ?_
    refine j_iload_n (dk dt_X12_blame 56 rfl) rfl ?_
    refine j_iload (dk dt_X12_blame 57 rfl) rfl ?_
    refine j_iload (dk dt_X12_blame 58 rfl) rfl ?_
    refine jz_callV4 (dk dt_X12_blame 59 rfl) vl_X12_948 rfl (T_X12_hasLike (m.2.1.1 _ _) r_x3 r_x4 r_x5 m H) m.1.1 rfl (by decide) (Nat.zero_le _) (Nat.zero_le _) (Nat.le_of_ble_eq_true rfl) (fun v_98 h_98 P_98 => ?_)
    obtain ⟨x_98, rfl, r_98, rfl, H⟩ := P_98
    dsimp only [rs]
    refine jz_if_eq 116 (dk dt_X12_blame 60 rfl) (by decide) r_98 H (fun H => ?_) (fun H => ?_)
    · refine j_aload_n (dk dt_X12_blame 67 rfl) rfl ?_
      refine j_aload_n (dk dt_X12_blame 68 rfl) rfl ?_
      refine jm_getA (dk dt_X12_blame 69 rfl) fl_X12_39 rfl (c := 14) rfl m ?_
      refine j_iload (dk dt_X12_blame 70 rfl) rfl ?_
      obtain ⟨p_123, q_123, H⟩ := H
      refine jm_iald (dk dt_X12_blame 71 rfl) rfl rfl m p_123 q_123 ?_
      refine j_iload_n (dk dt_X12_blame 72 rfl) rfl ?_
      refine j_iload (dk dt_X12_blame 73 rfl) rfl ?_
      refine j_iload (dk dt_X12_blame 74 rfl) rfl ?_
      refine jz_callV4 (dk dt_X12_blame 75 rfl) vl_X12_948 rfl (T_X12_hasLike (m.2.1.1 _ _) r_x3 r_x4 r_x5 m H) m.1.1 rfl (by decide) (Nat.zero_le _) (Nat.zero_le _) (Nat.le_of_ble_eq_true rfl) (fun v_129 h_129 P_129 => ?_)
      obtain ⟨x_129, rfl, r_129, rfl, H⟩ := P_129
      dsimp only [rs]
      refine jz_if_eq 147 (dk dt_X12_blame 76 rfl) (by decide) r_129 H (fun H => ?_) (fun H => ?_)
      · refine j_iconst (v := Int32.ofInt 0) (dk dt_X12_blame 83 rfl) (by decide) ?_
        refine j_istore (dk dt_X12_blame 84 rfl) (by decide) ?_
        refine j_goto 80 (dk dt_X12_blame 85 rfl) (by decide) ?_
        exact j_el (hl _ _ H r_x6 (by decide)) (And.intro rfl (And.intro rfl (And.intro rfl (And.intro rfl (And.intro rfl (And.intro rfl trivial))))))
      · refine j_aload_n (dk dt_X12_blame 77 rfl) rfl ?_
        refine jm_getA (dk dt_X12_blame 78 rfl) fl_X12_39 rfl (c := 14) rfl m ?_
        refine j_iload (dk dt_X12_blame 79 rfl) rfl ?_
        refine jm_iald (dk dt_X12_blame 80 rfl) rfl rfl m p_123 q_123 ?_
        refine j_istore (dk dt_X12_blame 81 rfl) (by decide) ?_
        refine j_goto 80 (dk dt_X12_blame 82 rfl) (by decide) ?_
        exact j_el (hl _ _ H (m.2.1.1 _ _) r_x7) (And.intro rfl (And.intro rfl (And.intro rfl (And.intro rfl (And.intro rfl (And.intro rfl trivial))))))
    · refine j_aload_n (dk dt_X12_blame 61 rfl) rfl ?_
      refine jm_getA (dk dt_X12_blame 62 rfl) fl_X12_36 rfl (c := 14) rfl m ?_
      refine j_iload (dk dt_X12_blame 63 rfl) rfl ?_
      refine jm_iald (dk dt_X12_blame 64 rfl) rfl rfl m p_92 q_92 ?_
      refine j_istore (dk dt_X12_blame 65 rfl) (by decide) ?_
      refine j_goto 80 (dk dt_X12_blame 66 rfl) (by decide) ?_
      exact j_el (hl _ _ H (m.2.1.1 _ _) r_x7) (And.intro rfl (And.intro rfl (And.intro rfl (And.intro rfl (And.intro rfl (And.intro rfl trivial))))))
def F_X12_blame_80  (x3 : Int) (x4 : Int) (x5 : Int) (x6 : Int) (x7 : Int) (u : Mu) (P : Int → Mu → Prop) : Prop :=
  lp (S := Int × Int) (E := (Int)) (fun q P_ => L_X12_blame_80 x3 x4 x5 q.1 q.2 u P_) (x6, x7) (fun (x6 : Int) => P x6 u)
theorem T_X12_blame_80  {x3 : Int} {x4 : Int} {x5 : Int} {x6 : Int} {x7 : Int} {u : Mu} {P : Int → Mu → Prop} {h : Hp} {g : Nat → Nat} (r_x3 : R32 x3) (r_x4 : R32 x4) (r_x5 : R32 x5) (r_x6 : R32 x6) (r_x7 : R32 x7) (m : Ms h g u)   (H : F_X12_blame_80 x3 x4 x5 x6 x7 u P) : J mX12_blame 5 0 0 (nx (QMI g P)) 80 [some (vr (some (g 0))), none, none, some (ii (x3)), some (ii (x4)), some (ii (x5)), some (ii (x6)), some (ii (x7))] [] h := by
  unfold F_X12_blame_80 at H
  refine lp_J (G := fun q => R32 (q.1) → R32 (q.2) → J mX12_blame 5 0 0 (nx (QMI g P)) 80 [some (vr (some (g 0))), none, none, some (ii (x3)), some (ii (x4)), some (ii (x5)), some (ii ((q.1))), some (ii ((q.2)))] [] h) (fun q P_ hl_ he_ Hb => ?_) (x6, x7) H r_x6 r_x7
  obtain ⟨x6, x7⟩ := q
  intro r_x6 r_x7
  refine U_X12_blame_80 (P := P_) r_x3 r_x4 r_x5 r_x6 r_x7 m  (fun x6 x7 Hp r_x6 r_x7 => hl_ (x6, x7) Hp r_x6 r_x7) ?_ Hb
  · intro x6 Hp r_x6
    have H := he_ _ Hp
    refine j_iload (dk dt_X12_blame 86 rfl) rfl ?_
    exact j_ireturn (dk dt_X12_blame 87 rfl) rfl rfl ⟨_, _, rfl, r_x6, m, H⟩
def F_X12_blame  (x1 : Int) (x2 : Int) (u : Mu) (P : Int → Mu → Prop) : Prop :=
  (∀ u_2, u_2 = uI u 0 0 0 → F_X12_isCell 40 x1 x2 u_2 (fun x_10 => (if x_10 = 0 then F_X12_throwing 1 u_2 (fun x_18 u_18 => P x_18 u_18) else F_X12_lineAt 40 0 (w32 (x1 - 1)) u_2 (fun x_29 => F_X12_lineAt 40 1 (w32 (x2 - 1)) u_2 (fun x_40 => F_X12_cellAt 40 x1 x2 u_2 (fun x_50 => F_X12_head u_2 (fun x_56 => F_X12_hasLike x_56 x_29 x_40 x_50 u_2 (fun x_69 => (if x_69 = 0 then P (-1) u_2 else F_X12_blame_80 x_29 x_40 x_50 x_56 1 u_2 P)))))))))
theorem T_X12_blame  {x1 : Int} {x2 : Int} {u : Mu} {P : Int → Mu → Prop} {h : Hp} {g : Nat → Nat} (r_x1 : R32 x1) (r_x2 : R32 x2) (m : Ms h g u)  (H : F_X12_blame x1 x2 u P) : Con mX12_blame 5 0 0 [vr (some (g 0)), ii (x1), ii (x2)] h (QMI g P) := by
  refine con_of rfl (Nat.le_of_ble_eq_true rfl) (by decide) ?_
  show J mX12_blame 5 0 0 _ 0 [some (vr (some (g 0))), some (ii (x1)), some (ii (x2)), none, none, none, none, none] [] h
  unfold F_X12_blame at H
  refine j_aload_n (dk dt_X12_blame 0 rfl) rfl ?_
  refine j_iconst (v := Int32.ofInt 0) (dk dt_X12_blame 1 rfl) (by decide) ?_
  refine jm_putI (kz := 0) (dk dt_X12_blame 2 rfl) fl_X12_202 rfl rfl rfl rfl m (by decide) (fun h_2 m_2 => ?_)
  replace H := H _ rfl
  refine j_aload_n (dk dt_X12_blame 3 rfl) rfl ?_
  refine j_bipush (v := Int32.ofInt 40) (dk dt_X12_blame 4 rfl) (by decide) ?_
  refine j_iload_n (dk dt_X12_blame 5 rfl) rfl ?_
  refine j_iload_n (dk dt_X12_blame 6 rfl) rfl ?_
  refine jz_callV3 (dk dt_X12_blame 7 rfl) vl_X12_321 rfl (T_X12_isCell (by decide) r_x1 r_x2 m_2 H) m_2.1.1 rfl (by decide) (Nat.zero_le _) (Nat.zero_le _) (Nat.le_of_ble_eq_true rfl) (fun v_10 h_10 P_10 => ?_)
  obtain ⟨x_10, rfl, r_10, rfl, H⟩ := P_10
  dsimp only [rs]
  refine jz_if_ne 22 (dk dt_X12_blame 8 rfl) (by decide) r_10 H (fun H => ?_) (fun H => ?_)
  · refine j_aload_n (dk dt_X12_blame 9 rfl) rfl ?_
    refine j_iconst (v := Int32.ofInt 1) (dk dt_X12_blame 10 rfl) (by decide) ?_
    refine jz_callV1 (dk dt_X12_blame 11 rfl) vl_X12_237 rfl (T_X12_throwing (by decide) m_2 H) m_2.1.1 rfl (by decide) (Nat.zero_le _) (Nat.zero_le _) (Nat.le_of_ble_eq_true rfl) (fun v_18 h_18 P_18 => ?_)
    obtain ⟨x_18, u_18, rfl, r_18, m_18, H⟩ := P_18
    dsimp only [rs]
    exact j_ireturn (dk dt_X12_blame 12 rfl) rfl rfl ⟨_, _, rfl, r_18, m_18, H⟩
  · refine j_aload_n (dk dt_X12_blame 13 rfl) rfl ?_
    refine j_bipush (v := Int32.ofInt 40) (dk dt_X12_blame 14 rfl) (by decide) ?_
    refine j_iconst (v := Int32.ofInt 0) (dk dt_X12_blame 15 rfl) (by decide) ?_
    refine j_iload_n (dk dt_X12_blame 16 rfl) rfl ?_
    refine j_iconst (v := Int32.ofInt 1) (dk dt_X12_blame 17 rfl) (by decide) ?_
    refine jz_isub (dk dt_X12_blame 18 rfl) ?_
    refine jz_callV3 (dk dt_X12_blame 19 rfl) vl_X12_213 rfl (T_X12_lineAt (by decide) (by decide) (r32_w _) m_2 H) m_2.1.1 rfl (by decide) (Nat.zero_le _) (Nat.zero_le _) (Nat.le_of_ble_eq_true rfl) (fun v_29 h_29 P_29 => ?_)
    obtain ⟨x_29, rfl, r_29, rfl, H⟩ := P_29
    dsimp only [rs]
    refine j_istore_n (dk dt_X12_blame 20 rfl) (by decide) ?_
    refine j_aload_n (dk dt_X12_blame 21 rfl) rfl ?_
    refine j_bipush (v := Int32.ofInt 40) (dk dt_X12_blame 22 rfl) (by decide) ?_
    refine j_iconst (v := Int32.ofInt 1) (dk dt_X12_blame 23 rfl) (by decide) ?_
    refine j_iload_n (dk dt_X12_blame 24 rfl) rfl ?_
    refine j_iconst (v := Int32.ofInt 1) (dk dt_X12_blame 25 rfl) (by decide) ?_
    refine jz_isub (dk dt_X12_blame 26 rfl) ?_
    refine jz_callV3 (dk dt_X12_blame 27 rfl) vl_X12_213 rfl (T_X12_lineAt (by decide) (by decide) (r32_w _) m_2 H) m_2.1.1 rfl (by decide) (Nat.zero_le _) (Nat.zero_le _) (Nat.le_of_ble_eq_true rfl) (fun v_40 h_40 P_40 => ?_)
    obtain ⟨x_40, rfl, r_40, rfl, H⟩ := P_40
    dsimp only [rs]
    refine j_istore (dk dt_X12_blame 28 rfl) (by decide) ?_
    refine j_aload_n (dk dt_X12_blame 29 rfl) rfl ?_
    refine j_bipush (v := Int32.ofInt 40) (dk dt_X12_blame 30 rfl) (by decide) ?_
    refine j_iload_n (dk dt_X12_blame 31 rfl) rfl ?_
    refine j_iload_n (dk dt_X12_blame 32 rfl) rfl ?_
    refine jz_callV3 (dk dt_X12_blame 33 rfl) vl_X12_812 rfl (T_X12_cellAt (by decide) r_x1 r_x2 m_2 H) m_2.1.1 rfl (by decide) (Nat.zero_le _) (Nat.zero_le _) (Nat.le_of_ble_eq_true rfl) (fun v_50 h_50 P_50 => ?_)
    obtain ⟨x_50, rfl, r_50, rfl, H⟩ := P_50
    dsimp only [rs]
    refine j_istore (dk dt_X12_blame 34 rfl) (by decide) ?_
    refine j_aload_n (dk dt_X12_blame 35 rfl) rfl ?_
    refine jz_callV0 (dk dt_X12_blame 36 rfl) vl_X12_860 rfl (T_X12_head m_2 H) m_2.1.1 rfl (by decide) (Nat.zero_le _) (Nat.zero_le _) (Nat.le_of_ble_eq_true rfl) (fun v_56 h_56 P_56 => ?_)
    obtain ⟨x_56, rfl, r_56, rfl, H⟩ := P_56
    dsimp only [rs]
    refine j_istore (dk dt_X12_blame 37 rfl) (by decide) ?_
    refine j_aload_n (dk dt_X12_blame 38 rfl) rfl ?_
    refine j_iload (dk dt_X12_blame 39 rfl) rfl ?_
    refine j_iload_n (dk dt_X12_blame 40 rfl) rfl ?_
    refine j_iload (dk dt_X12_blame 41 rfl) rfl ?_
    refine j_iload (dk dt_X12_blame 42 rfl) rfl ?_
    refine jz_callV4 (dk dt_X12_blame 43 rfl) vl_X12_948 rfl (T_X12_hasLike r_56 r_29 r_40 r_50 m_2 H) m_2.1.1 rfl (by decide) (Nat.zero_le _) (Nat.zero_le _) (Nat.le_of_ble_eq_true rfl) (fun v_69 h_69 P_69 => ?_)
    obtain ⟨x_69, rfl, r_69, rfl, H⟩ := P_69
    dsimp only [rs]
    refine jz_if_ne 77 (dk dt_X12_blame 44 rfl) (by decide) r_69 H (fun H => ?_) (fun H => ?_)
    · refine j_iconst (v := Int32.ofInt (-1)) (dk dt_X12_blame 45 rfl) (by decide) ?_
      exact j_ireturn (dk dt_X12_blame 46 rfl) rfl rfl ⟨_, _, rfl, (by decide), m_2, H⟩
    · refine j_iconst (v := Int32.ofInt 1) (dk dt_X12_blame 47 rfl) (by decide) ?_
      refine j_istore (dk dt_X12_blame 48 rfl) (by decide) ?_
      exact j_el (T_X12_blame_80 r_29 r_40 r_50 r_56 (by decide) m_2   H) (And.intro rfl (And.intro rfl (And.intro rfl (And.intro rfl (And.intro rfl (And.intro rfl trivial))))))
def F_X12_branch  (x1 : Int) (u : Mu) (P : Int → Mu → Prop) : Prop :=
  (∀ u_2, u_2 = uI u 0 0 0 → F_X12_in x1 0 5 (fun x_8 => (if x_8 = 0 then F_X12_throwing 1 u_2 (fun x_16 u_16 => P x_16 u_16) else (0 ≤ x1 ∧ x1 < 6 ∧ (if mI u_2 11 x1 < 0 then F_X12_head u_2 (fun x_41 => (∀ u_44, u_44 = uI u_2 11 x1 x_41 → F_X12_head u_44 (fun x_46 => P x_46 u_44))) else F_X12_throwing 2 u_2 (fun x_31 u_31 => P x_31 u_31))))))
theorem T_X12_branch  {x1 : Int} {u : Mu} {P : Int → Mu → Prop} {h : Hp} {g : Nat → Nat} (r_x1 : R32 x1) (m : Ms h g u)  (H : F_X12_branch x1 u P) : Con mX12_branch 2 0 0 [vr (some (g 0)), ii (x1)] h (QMI g P) := by
  refine con_of rfl (Nat.le_of_ble_eq_true rfl) (by decide) ?_
  show J mX12_branch 2 0 0 _ 0 [some (vr (some (g 0))), some (ii (x1))] [] h
  unfold F_X12_branch at H
  refine j_aload_n (dk dt_X12_branch 0 rfl) rfl ?_
  refine j_iconst (v := Int32.ofInt 0) (dk dt_X12_branch 1 rfl) (by decide) ?_
  refine jm_putI (kz := 0) (dk dt_X12_branch 2 rfl) fl_X12_202 rfl rfl rfl rfl m (by decide) (fun h_2 m_2 => ?_)
  replace H := H _ rfl
  refine j_iload_n (dk dt_X12_branch 3 rfl) rfl ?_
  refine j_iconst (v := Int32.ofInt 0) (dk dt_X12_branch 4 rfl) (by decide) ?_
  refine j_iconst (v := Int32.ofInt 5) (dk dt_X12_branch 5 rfl) (by decide) ?_
  refine j_callS3 (dk dt_X12_branch 6 rfl) sl_X12_220 (T_X12_in r_x1 (by decide) (by decide) H) rfl (by decide) (Nat.zero_le _) (Nat.zero_le _) (Nat.le_of_ble_eq_true rfl) (fun v_8 h_8 P_8 => ?_)
  obtain ⟨x_8, rfl, r_8, rfl, H⟩ := P_8
  dsimp only [rs]
  refine jz_if_ne 20 (dk dt_X12_branch 7 rfl) (by decide) r_8 H (fun H => ?_) (fun H => ?_)
  · refine j_aload_n (dk dt_X12_branch 8 rfl) rfl ?_
    refine j_iconst (v := Int32.ofInt 1) (dk dt_X12_branch 9 rfl) (by decide) ?_
    refine jz_callV1 (dk dt_X12_branch 10 rfl) vl_X12_237 rfl (T_X12_throwing (by decide) m_2 H) m_2.1.1 rfl (by decide) (Nat.zero_le _) (Nat.zero_le _) (Nat.le_of_ble_eq_true rfl) (fun v_16 h_16 P_16 => ?_)
    obtain ⟨x_16, u_16, rfl, r_16, m_16, H⟩ := P_16
    dsimp only [rs]
    exact j_ireturn (dk dt_X12_branch 11 rfl) rfl rfl ⟨_, _, rfl, r_16, m_16, H⟩
  · refine j_aload_n (dk dt_X12_branch 12 rfl) rfl ?_
    refine jm_getA (dk dt_X12_branch 13 rfl) fl_X12_42 rfl (c := 14) rfl m_2 ?_
    refine j_iload_n (dk dt_X12_branch 14 rfl) rfl ?_
    obtain ⟨p_25, q_25, H⟩ := H
    refine jm_iald (dk dt_X12_branch 15 rfl) rfl rfl m_2 p_25 q_25 ?_
    refine jz_if_lt 35 (dk dt_X12_branch 16 rfl) (by decide) (m_2.2.1.1 _ _) H (fun H => ?_) (fun H => ?_)
    · refine j_aload_n (dk dt_X12_branch 21 rfl) rfl ?_
      refine jm_getA (dk dt_X12_branch 22 rfl) fl_X12_42 rfl (c := 14) rfl m_2 ?_
      refine j_iload_n (dk dt_X12_branch 23 rfl) rfl ?_
      refine j_aload_n (dk dt_X12_branch 24 rfl) rfl ?_
      refine jz_callV0 (dk dt_X12_branch 25 rfl) vl_X12_860 rfl (T_X12_head m_2 H) m_2.1.1 rfl (by decide) (Nat.zero_le _) (Nat.zero_le _) (Nat.le_of_ble_eq_true rfl) (fun v_41 h_41 P_41 => ?_)
      obtain ⟨x_41, rfl, r_41, rfl, H⟩ := P_41
      dsimp only [rs]
      refine jm_iast (dk dt_X12_branch 26 rfl) rfl rfl m_2 p_25 q_25 r_41 (fun h_44 m_44 => ?_)
      replace H := H _ rfl
      refine j_aload_n (dk dt_X12_branch 27 rfl) rfl ?_
      refine jz_callV0 (dk dt_X12_branch 28 rfl) vl_X12_860 rfl (T_X12_head m_44 H) m_44.1.1 rfl (by decide) (Nat.zero_le _) (Nat.zero_le _) (Nat.le_of_ble_eq_true rfl) (fun v_46 h_46 P_46 => ?_)
      obtain ⟨x_46, rfl, r_46, rfl, H⟩ := P_46
      dsimp only [rs]
      exact j_ireturn (dk dt_X12_branch 29 rfl) rfl rfl ⟨_, _, rfl, r_46, m_44, H⟩
    · refine j_aload_n (dk dt_X12_branch 17 rfl) rfl ?_
      refine j_iconst (v := Int32.ofInt 2) (dk dt_X12_branch 18 rfl) (by decide) ?_
      refine jz_callV1 (dk dt_X12_branch 19 rfl) vl_X12_237 rfl (T_X12_throwing (by decide) m_2 H) m_2.1.1 rfl (by decide) (Nat.zero_le _) (Nat.zero_le _) (Nat.le_of_ble_eq_true rfl) (fun v_31 h_31 P_31 => ?_)
      obtain ⟨x_31, u_31, rfl, r_31, m_31, H⟩ := P_31
      dsimp only [rs]
      exact j_ireturn (dk dt_X12_branch 20 rfl) rfl rfl ⟨_, _, rfl, r_31, m_31, H⟩
def L_X12_bring_38  (x1 : Int) (x2 : Int) (x3 : Int) (u : Mu) (P : (Int × Mu) ⊕ ((Mu)) → Prop) : Prop :=
  (if 24 ≤ x3 then P (.inr u) else (0 ≤ w32 (w32 (24 * x1) + x3) ∧ w32 (w32 (24 * x1) + x3) < 4800 ∧ (0 ≤ w32 (w32 (24 * x2) + x3) ∧ w32 (w32 (24 * x2) + x3) < 4800 ∧ (∀ u_65, u_65 = uI u 69 (w32 (w32 (24 * x2) + x3)) (mI u 69 (w32 (w32 (24 * x1) + x3))) → P (.inl (w32 (x3 + 1), u_65))))))
theorem U_X12_bring_38  {x1 : Int} {x2 : Int} {x3 : Int} {u : Mu} {P : (Int × Mu) ⊕ ((Mu)) → Prop} {h : Hp} {g : Nat → Nat} {post : Option Sv ⊕ String → Hp → Prop} (r_x1 : R32 x1) (r_x2 : R32 x2) (r_x3 : R32 x3) (m : Ms h g u)  (hl : ∀ (x3 : Int) (u : Mu) (h : Hp), P (.inl (x3, u)) → Ms h g u → R32 x3 → J mX12_bring 1 0 0 post 38 [some (vr (some (g 0))), some (ii (x1)), some (ii (x2)), some (ii (x3))] [] h) (he0 : ∀ (u : Mu) (h : Hp), P (.inr u) → Ms h g u → J mX12_bring 1 0 0 post 72 [none, none, none, none] [] h) (H : L_X12_bring_38 x1 x2 x3 u P) : J mX12_bring 1 0 0 post 38 [some (vr (some (g 0))), some (ii (x1)), some (ii (x2)), some (ii (x3))] [] h := by
  unfold L_X12_bring_38 at H
  refine j_iload_n (dk dt_X12_bring 26 rfl) rfl ?_
  refine j_bipush (v := Int32.ofInt 24) (dk dt_X12_bring 27 rfl) (by decide) ?_
  refine jz_icmp_ge 72 (dk dt_X12_bring 28 rfl) (by decide) r_x3 (by decide) H (fun H => ?_) (fun H => ?_)
  · exact j_el (he0 _ _ H m) trivial
  · refine j_aload_n (dk dt_X12_bring 29 rfl) rfl ?_
    refine jm_getA (dk dt_X12_bring 30 rfl) fl_X12_135 rfl (c := 13) rfl m ?_
    refine j_bipush (v := Int32.ofInt 24) (dk dt_X12_bring 31 rfl) (by decide) ?_
    refine j_iload_n (dk dt_X12_bring 32 rfl) rfl ?_
    refine jz_imul (dk dt_X12_bring 33 rfl) ?_
    refine j_iload_n (dk dt_X12_bring 34 rfl) rfl ?_
    refine jz_iadd (dk dt_X12_bring 35 rfl) ?_
    refine j_aload_n (dk dt_X12_bring 36 rfl) rfl ?_
    refine jm_getA (dk dt_X12_bring 37 rfl) fl_X12_135 rfl (c := 13) rfl m ?_
    refine j_bipush (v := Int32.ofInt 24) (dk dt_X12_bring 38 rfl) (by decide) ?_
    refine j_iload_n (dk dt_X12_bring 39 rfl) rfl ?_
    refine jz_imul (dk dt_X12_bring 40 rfl) ?_
    refine j_iload_n (dk dt_X12_bring 41 rfl) rfl ?_
    refine jz_iadd (dk dt_X12_bring 42 rfl) ?_
    obtain ⟨p_64, q_64, H⟩ := H
    refine jm_bald (dk dt_X12_bring 43 rfl) rfl rfl m p_64 q_64 ?_
    obtain ⟨p_65, q_65, H⟩ := H
    refine jm_bast (dk dt_X12_bring 44 rfl) rfl rfl m p_65 q_65 (m.2.1.2.2.1 _ _ rfl) (fun h_65 m_65 => ?_)
    replace H := H _ rfl
    refine jz_iinc (dk dt_X12_bring 45 rfl) rfl ?_
    refine j_goto 38 (dk dt_X12_bring 46 rfl) (by decide) ?_
    exact j_el (hl _ _ _ H m_65 (r32_w _)) (And.intro rfl (And.intro rfl (And.intro rfl (And.intro rfl trivial))))
def F_X12_bring_38  (x1 : Int) (x2 : Int) (x3 : Int) (u : Mu) (P : Mu → Prop) : Prop :=
  lp (S := Int × Mu) (E := (Mu)) (fun q P_ => L_X12_bring_38 x1 x2 q.1 q.2 P_) (x3, u) (fun (u : Mu) => P u)
theorem T_X12_bring_38  {x1 : Int} {x2 : Int} {x3 : Int} {u : Mu} {P : Mu → Prop} {h : Hp} {g : Nat → Nat} (r_x1 : R32 x1) (r_x2 : R32 x2) (r_x3 : R32 x3) (m : Ms h g u)   (H : F_X12_bring_38 x1 x2 x3 u P) : J mX12_bring 1 0 0 (nx (QMV g P)) 38 [some (vr (some (g 0))), some (ii (x1)), some (ii (x2)), some (ii (x3))] [] h := by
  unfold F_X12_bring_38 at H
  refine lp_J (G := fun q => ∀ h : Hp, Ms h g (q.2) → R32 (q.1) → J mX12_bring 1 0 0 (nx (QMV g P)) 38 [some (vr (some (g 0))), some (ii (x1)), some (ii (x2)), some (ii ((q.1)))] [] h) (fun q P_ hl_ he_ Hb => ?_) (x3, u) H _ m r_x3
  obtain ⟨x3, u⟩ := q
  intro h m r_x3
  refine U_X12_bring_38 (P := P_) r_x1 r_x2 r_x3 m  (fun x3 u h Hp m r_x3 => hl_ (x3, u) Hp h m r_x3) ?_ Hb
  · intro u h Hp m
    have H := he_ _ Hp
    exact j_return (dk dt_X12_bring 47 rfl) rfl ⟨_, rfl, m, H⟩
def F_X12_bring  (x1 : Int) (x2 : Int) (u : Mu) (P : Mu → Prop) : Prop :=
  (0 ≤ x1 ∧ x1 < 200 ∧ (0 ≤ x2 ∧ x2 < 200 ∧ (∀ u_11, u_11 = uI u 66 x2 (mI u 66 x1) → (0 ≤ x1 ∧ x1 < 200 ∧ (0 ≤ x2 ∧ x2 < 200 ∧ (∀ u_23, u_23 = uG u_11 67 x2 (mG u_11 67 x1) → (0 ≤ x1 ∧ x1 < 200 ∧ (0 ≤ x2 ∧ x2 < 200 ∧ (∀ u_35, u_35 = uI u_23 68 x2 (mI u_23 68 x1) → F_X12_bring_38 x1 x2 0 u_35 P)))))))))
theorem T_X12_bring  {x1 : Int} {x2 : Int} {u : Mu} {P : Mu → Prop} {h : Hp} {g : Nat → Nat} (r_x1 : R32 x1) (r_x2 : R32 x2) (m : Ms h g u)  (H : F_X12_bring x1 x2 u P) : Con mX12_bring 1 0 0 [vr (some (g 0)), ii (x1), ii (x2)] h (QMV g P) := by
  refine con_of rfl (Nat.le_of_ble_eq_true rfl) (by decide) ?_
  show J mX12_bring 1 0 0 _ 0 [some (vr (some (g 0))), some (ii (x1)), some (ii (x2)), none] [] h
  unfold F_X12_bring at H
  refine j_aload_n (dk dt_X12_bring 0 rfl) rfl ?_
  refine jm_getA (dk dt_X12_bring 1 rfl) fl_X12_126 rfl (c := 14) rfl m ?_
  refine j_iload_n (dk dt_X12_bring 2 rfl) rfl ?_
  refine j_aload_n (dk dt_X12_bring 3 rfl) rfl ?_
  refine jm_getA (dk dt_X12_bring 4 rfl) fl_X12_126 rfl (c := 14) rfl m ?_
  refine j_iload_n (dk dt_X12_bring 5 rfl) rfl ?_
  obtain ⟨p_10, q_10, H⟩ := H
  refine jm_iald (dk dt_X12_bring 6 rfl) rfl rfl m p_10 q_10 ?_
  obtain ⟨p_11, q_11, H⟩ := H
  refine jm_iast (dk dt_X12_bring 7 rfl) rfl rfl m p_11 q_11 (m.2.1.1 _ _) (fun h_11 m_11 => ?_)
  replace H := H _ rfl
  refine j_aload_n (dk dt_X12_bring 8 rfl) rfl ?_
  refine jm_getA (dk dt_X12_bring 9 rfl) fl_X12_129 rfl (c := 15) rfl m_11 ?_
  refine j_iload_n (dk dt_X12_bring 10 rfl) rfl ?_
  refine j_aload_n (dk dt_X12_bring 11 rfl) rfl ?_
  refine jm_getA (dk dt_X12_bring 12 rfl) fl_X12_129 rfl (c := 15) rfl m_11 ?_
  refine j_iload_n (dk dt_X12_bring 13 rfl) rfl ?_
  obtain ⟨p_22, q_22, H⟩ := H
  refine jm_lald (dk dt_X12_bring 14 rfl) rfl rfl m_11 p_22 q_22 ?_
  obtain ⟨p_23, q_23, H⟩ := H
  refine jm_last (dk dt_X12_bring 15 rfl) rfl rfl m_11 p_23 q_23 (m_11.2.1.2.1 _ _) (fun h_23 m_23 => ?_)
  replace H := H _ rfl
  refine j_aload_n (dk dt_X12_bring 16 rfl) rfl ?_
  refine jm_getA (dk dt_X12_bring 17 rfl) fl_X12_132 rfl (c := 14) rfl m_23 ?_
  refine j_iload_n (dk dt_X12_bring 18 rfl) rfl ?_
  refine j_aload_n (dk dt_X12_bring 19 rfl) rfl ?_
  refine jm_getA (dk dt_X12_bring 20 rfl) fl_X12_132 rfl (c := 14) rfl m_23 ?_
  refine j_iload_n (dk dt_X12_bring 21 rfl) rfl ?_
  obtain ⟨p_34, q_34, H⟩ := H
  refine jm_iald (dk dt_X12_bring 22 rfl) rfl rfl m_23 p_34 q_34 ?_
  obtain ⟨p_35, q_35, H⟩ := H
  refine jm_iast (dk dt_X12_bring 23 rfl) rfl rfl m_23 p_35 q_35 (m_23.2.1.1 _ _) (fun h_35 m_35 => ?_)
  replace H := H _ rfl
  refine j_iconst (v := Int32.ofInt 0) (dk dt_X12_bring 24 rfl) (by decide) ?_
  refine j_istore_n (dk dt_X12_bring 25 rfl) (by decide) ?_
  exact j_el (T_X12_bring_38 r_x1 r_x2 (by decide) m_35   H) (And.intro rfl (And.intro rfl (And.intro rfl (And.intro rfl trivial))))
def F_X12_byteAt_18  (s0 : Int) (u : Mu) (P : Int → Prop) : Prop :=
  P s0
theorem T_X12_byteAt_18  {s0 : Int} {u : Mu} {P : Int → Prop} {h : Hp} {g : Nat → Nat} (r_s0 : R32 s0) (m : Ms h g u)   (H : F_X12_byteAt_18 s0 u P) : J mX12_byteAt 1 0 0 (nx (QPI h P)) 18 [none, none] [ii (s0)] h := by
  unfold F_X12_byteAt_18 at H
  exact j_ireturn (dk dt_X12_byteAt 10 rfl) rfl rfl ⟨_, rfl, r_s0, rfl, H⟩
def F_X12_byteAt  (x1 : Int) (u : Mu) (P : Int → Prop) : Prop :=
  (if mI u 0 44 ≤ x1 then F_X12_byteAt_18 (-1) u P else (0 ≤ x1 ∧ x1 < 400 ∧ F_X12_byteAt_18 (mI u 39 x1) u P))
theorem T_X12_byteAt  {x1 : Int} {u : Mu} {P : Int → Prop} {h : Hp} {g : Nat → Nat} (r_x1 : R32 x1) (m : Ms h g u)  (H : F_X12_byteAt x1 u P) : Con mX12_byteAt 1 0 0 [vr (some (g 0)), ii (x1)] h (QPI h P) := by
  refine con_of rfl (Nat.le_of_ble_eq_true rfl) (by decide) ?_
  show J mX12_byteAt 1 0 0 _ 0 [some (vr (some (g 0))), some (ii (x1))] [] h
  unfold F_X12_byteAt at H
  refine j_iload_n (dk dt_X12_byteAt 0 rfl) rfl ?_
  refine j_aload_n (dk dt_X12_byteAt 1 rfl) rfl ?_
  refine jm_getI (kz := 44) (dk dt_X12_byteAt 2 rfl) fl_X12_261 rfl rfl m ?_
  refine jz_icmp_ge 17 (dk dt_X12_byteAt 3 rfl) (by decide) r_x1 (m.2.1.1 _ _) H (fun H => ?_) (fun H => ?_)
  · refine j_iconst (v := Int32.ofInt (-1)) (dk dt_X12_byteAt 9 rfl) (by decide) ?_
    exact j_el (T_X12_byteAt_18 (by decide) m   H) trivial
  · refine j_aload_n (dk dt_X12_byteAt 4 rfl) rfl ?_
    refine jm_getA (dk dt_X12_byteAt 5 rfl) fl_X12_106 rfl (c := 14) rfl m ?_
    refine j_iload_n (dk dt_X12_byteAt 6 rfl) rfl ?_
    obtain ⟨p_13, q_13, H⟩ := H
    refine jm_iald (dk dt_X12_byteAt 7 rfl) rfl rfl m p_13 q_13 ?_
    refine j_goto 18 (dk dt_X12_byteAt 8 rfl) (by decide) ?_
    exact j_el (T_X12_byteAt_18 (m.2.1.1 _ _) m   H) trivial
def F_X12_longOf_11  (s0 : Int) (P : Int → Prop) : Prop :=
  P s0
theorem T_X12_longOf_11  {s0 : Int} {P : Int → Prop} {h : Hp} (r_s0 : R32 s0)    (H : F_X12_longOf_11 s0 P) : J mX12_longOf 1 0 0 (nx (QPI h P)) 11 [none] [ii (s0)] h := by
  unfold F_X12_longOf_11 at H
  exact j_ireturn (dk dt_X12_longOf 5 rfl) rfl rfl ⟨_, rfl, r_s0, rfl, H⟩
def F_X12_longOf  (x0 : Int) (P : Int → Prop) : Prop :=
  (if x0 = 0 then F_X12_longOf_11 10 P else F_X12_longOf_11 32 P)
theorem T_X12_longOf  {x0 : Int} {P : Int → Prop} {h : Hp} (r_x0 : R32 x0)   (H : F_X12_longOf x0 P) : Con mX12_longOf 1 0 0 [ii (x0)] h (QPI h P) := by
  refine con_of rfl (Nat.le_of_ble_eq_true rfl) (by decide) ?_
  show J mX12_longOf 1 0 0 _ 0 [some (ii (x0))] [] h
  unfold F_X12_longOf at H
  refine j_iload_n (dk dt_X12_longOf 0 rfl) rfl ?_
  refine jz_if_ne 9 (dk dt_X12_longOf 1 rfl) (by decide) r_x0 H (fun H => ?_) (fun H => ?_)
  · refine j_bipush (v := Int32.ofInt 10) (dk dt_X12_longOf 2 rfl) (by decide) ?_
    refine j_goto 11 (dk dt_X12_longOf 3 rfl) (by decide) ?_
    exact j_el (T_X12_longOf_11 (by decide)    H) trivial
  · refine j_bipush (v := Int32.ofInt 32) (dk dt_X12_longOf 4 rfl) (by decide) ?_
    exact j_el (T_X12_longOf_11 (by decide)    H) trivial
def F_X12_onLine_19  (s0 : Int) (P : Int → Prop) : Prop :=
  P s0
theorem T_X12_onLine_19  {s0 : Int} {P : Int → Prop} {h : Hp} (r_s0 : R32 s0)    (H : F_X12_onLine_19 s0 P) : J mX12_onLine 1 0 0 (nx (QPI h P)) 19 [none, none, none] [ii (s0)] h := by
  unfold F_X12_onLine_19 at H
  exact j_ireturn (dk dt_X12_onLine 13 rfl) rfl rfl ⟨_, rfl, r_s0, rfl, H⟩
def F_X12_onLine  (x0 : Int) (x1 : Int) (x2 : Int) (P : Int → Prop) : Prop :=
  (if x0 = 0 then F_X12_onLine_19 (w32 (w32 (10 * x1) + x2)) P else F_X12_onLine_19 (w32 (w32 (10 * x2) + x1)) P)
theorem T_X12_onLine  {x0 : Int} {x1 : Int} {x2 : Int} {P : Int → Prop} {h : Hp} (r_x0 : R32 x0) (r_x1 : R32 x1) (r_x2 : R32 x2)   (H : F_X12_onLine x0 x1 x2 P) : Con mX12_onLine 1 0 0 [ii (x0), ii (x1), ii (x2)] h (QPI h P) := by
  refine con_of rfl (Nat.le_of_ble_eq_true rfl) (by decide) ?_
  show J mX12_onLine 1 0 0 _ 0 [some (ii (x0)), some (ii (x1)), some (ii (x2))] [] h
  unfold F_X12_onLine at H
  refine j_iload_n (dk dt_X12_onLine 0 rfl) rfl ?_
  refine jz_if_ne 13 (dk dt_X12_onLine 1 rfl) (by decide) r_x0 H (fun H => ?_) (fun H => ?_)
  · refine j_bipush (v := Int32.ofInt 10) (dk dt_X12_onLine 2 rfl) (by decide) ?_
    refine j_iload_n (dk dt_X12_onLine 3 rfl) rfl ?_
    refine jz_imul (dk dt_X12_onLine 4 rfl) ?_
    refine j_iload_n (dk dt_X12_onLine 5 rfl) rfl ?_
    refine jz_iadd (dk dt_X12_onLine 6 rfl) ?_
    refine j_goto 19 (dk dt_X12_onLine 7 rfl) (by decide) ?_
    exact j_el (T_X12_onLine_19 (r32_w _)    H) trivial
  · refine j_bipush (v := Int32.ofInt 10) (dk dt_X12_onLine 8 rfl) (by decide) ?_
    refine j_iload_n (dk dt_X12_onLine 9 rfl) rfl ?_
    refine jz_imul (dk dt_X12_onLine 10 rfl) ?_
    refine j_iload_n (dk dt_X12_onLine 11 rfl) rfl ?_
    refine jz_iadd (dk dt_X12_onLine 12 rfl) ?_
    exact j_el (T_X12_onLine_19 (r32_w _)    H) trivial
def F_X12_setLine_33  (u : Mu) (P : Mu → Prop) : Prop :=
  P u
theorem T_X12_setLine_33  {u : Mu} {P : Mu → Prop} {h : Hp} {g : Nat → Nat}  (m : Ms h g u)   (H : F_X12_setLine_33 u P) : J mX12_setLine 1 0 0 (nx (QMV g P)) 33 [none, none, none, none, none] [] h := by
  unfold F_X12_setLine_33 at H
  exact j_return (dk dt_X12_setLine 21 rfl) rfl ⟨_, rfl, m, H⟩
def F_X12_setLine  (x1 : Int) (x2 : Int) (x3 : Int) (x4 : Int) (u : Mu) (P : Mu → Prop) : Prop :=
  (if x2 = 0 then (0 ≤ w32 (w32 (32 * x1) + x3) ∧ w32 (w32 (32 * x1) + x3) < 3904 ∧ (∀ u_16, u_16 = uI u 3 (w32 (w32 (32 * x1) + x3)) x4 → F_X12_setLine_33 u_16 P)) else (0 ≤ w32 (w32 (10 * x1) + x3) ∧ w32 (w32 (10 * x1) + x3) < 1220 ∧ (∀ u_32, u_32 = uI u 4 (w32 (w32 (10 * x1) + x3)) x4 → F_X12_setLine_33 u_32 P)))
theorem T_X12_setLine  {x1 : Int} {x2 : Int} {x3 : Int} {x4 : Int} {u : Mu} {P : Mu → Prop} {h : Hp} {g : Nat → Nat} (r_x1 : R32 x1) (r_x2 : R32 x2) (r_x3 : R32 x3) (r_x4 : R32 x4) (m : Ms h g u)  (H : F_X12_setLine x1 x2 x3 x4 u P) : Con mX12_setLine 1 0 0 [vr (some (g 0)), ii (x1), ii (x2), ii (x3), ii (x4)] h (QMV g P) := by
  refine con_of rfl (Nat.le_of_ble_eq_true rfl) (by decide) ?_
  show J mX12_setLine 1 0 0 _ 0 [some (vr (some (g 0))), some (ii (x1)), some (ii (x2)), some (ii (x3)), some (ii (x4))] [] h
  unfold F_X12_setLine at H
  refine j_iload_n (dk dt_X12_setLine 0 rfl) rfl ?_
  refine jz_if_ne 20 (dk dt_X12_setLine 1 rfl) (by decide) r_x2 H (fun H => ?_) (fun H => ?_)
  · refine j_aload_n (dk dt_X12_setLine 2 rfl) rfl ?_
    refine jm_getA (dk dt_X12_setLine 3 rfl) fl_X12_16 rfl (c := 14) rfl m ?_
    refine j_bipush (v := Int32.ofInt 32) (dk dt_X12_setLine 4 rfl) (by decide) ?_
    refine j_iload_n (dk dt_X12_setLine 5 rfl) rfl ?_
    refine jz_imul (dk dt_X12_setLine 6 rfl) ?_
    refine j_iload_n (dk dt_X12_setLine 7 rfl) rfl ?_
    refine jz_iadd (dk dt_X12_setLine 8 rfl) ?_
    refine j_iload (dk dt_X12_setLine 9 rfl) rfl ?_
    obtain ⟨p_16, q_16, H⟩ := H
    refine jm_iast (dk dt_X12_setLine 10 rfl) rfl rfl m p_16 q_16 r_x4 (fun h_16 m_16 => ?_)
    replace H := H _ rfl
    refine j_goto 33 (dk dt_X12_setLine 11 rfl) (by decide) ?_
    exact j_el (T_X12_setLine_33  m_16   H) trivial
  · refine j_aload_n (dk dt_X12_setLine 12 rfl) rfl ?_
    refine jm_getA (dk dt_X12_setLine 13 rfl) fl_X12_19 rfl (c := 14) rfl m ?_
    refine j_bipush (v := Int32.ofInt 10) (dk dt_X12_setLine 14 rfl) (by decide) ?_
    refine j_iload_n (dk dt_X12_setLine 15 rfl) rfl ?_
    refine jz_imul (dk dt_X12_setLine 16 rfl) ?_
    refine j_iload_n (dk dt_X12_setLine 17 rfl) rfl ?_
    refine jz_iadd (dk dt_X12_setLine 18 rfl) ?_
    refine j_iload (dk dt_X12_setLine 19 rfl) rfl ?_
    obtain ⟨p_32, q_32, H⟩ := H
    refine jm_iast (dk dt_X12_setLine 20 rfl) rfl rfl m p_32 q_32 r_x4 (fun h_32 m_32 => ?_)
    replace H := H _ rfl
    exact j_el (T_X12_setLine_33  m_32   H) trivial
def L_X12_comeLine_19  (x1 : Int) (x2 : Int) (x3 : Int) (x4 : Int) (x5 : Int) (u : Mu) (P : (Int × Mu) ⊕ ((Mu)) → Prop) : Prop :=
  F_X12_longOf x1 (fun x_22 => (if x_22 ≤ x5 then P (.inr u) else F_X12_onLine x1 x4 x5 (fun x_40 => F_X12_onLine x1 x2 x5 (fun x_57 => (0 ≤ w32 (w32 (320 * x3) + x_57) ∧ w32 (w32 (320 * x3) + x_57) < 39040 ∧ (0 ≤ w32 (12800 + x_40) ∧ w32 (12800 + x_40) < 39040 ∧ (∀ u_62, u_62 = uI u 5 (w32 (12800 + x_40)) (mI u 5 (w32 (w32 (320 * x3) + x_57))) → P (.inl (w32 (x5 + 1), u_62)))))))))
theorem U_X12_comeLine_19  {x1 : Int} {x2 : Int} {x3 : Int} {x4 : Int} {x5 : Int} {u : Mu} {P : (Int × Mu) ⊕ ((Mu)) → Prop} {h : Hp} {g : Nat → Nat} {post : Option Sv ⊕ String → Hp → Prop} (r_x1 : R32 x1) (r_x2 : R32 x2) (r_x3 : R32 x3) (r_x4 : R32 x4) (r_x5 : R32 x5) (m : Ms h g u)  (hl : ∀ (x5 : Int) (u : Mu) (h : Hp), P (.inl (x5, u)) → Ms h g u → R32 x5 → J mX12_comeLine 2 0 0 post 19 [some (vr (some (g 0))), some (ii (x1)), some (ii (x2)), some (ii (x3)), some (ii (x4)), some (ii (x5))] [] h) (he0 : ∀ (u : Mu) (h : Hp), P (.inr u) → Ms h g u → J mX12_comeLine 2 0 0 post 69 [none, none, none, none, none, none] [] h) (H : L_X12_comeLine_19 x1 x2 x3 x4 x5 u P) : J mX12_comeLine 2 0 0 post 19 [some (vr (some (g 0))), some (ii (x1)), some (ii (x2)), some (ii (x3)), some (ii (x4)), some (ii (x5))] [] h := by
  unfold L_X12_comeLine_19 at H
  refine j_iload (dk dt_X12_comeLine 12 rfl) rfl ?_
  refine j_iload_n (dk dt_X12_comeLine 13 rfl) rfl ?_
  refine j_callS1 (dk dt_X12_comeLine 14 rfl) sl_X12_822 (T_X12_longOf r_x1 H) rfl (by decide) (Nat.zero_le _) (Nat.zero_le _) (Nat.le_of_ble_eq_true rfl) (fun v_22 h_22 P_22 => ?_)
  obtain ⟨x_22, rfl, r_22, rfl, H⟩ := P_22
  dsimp only [rs]
  refine jz_icmp_ge 69 (dk dt_X12_comeLine 15 rfl) (by decide) r_x5 r_22 H (fun H => ?_) (fun H => ?_)
  · exact j_el (he0 _ _ H m) trivial
  · refine j_aload_n (dk dt_X12_comeLine 16 rfl) rfl ?_
    refine jm_getA (dk dt_X12_comeLine 17 rfl) fl_X12_23 rfl (c := 14) rfl m ?_
    refine j_sipush (v := Int32.ofInt 12800) (dk dt_X12_comeLine 18 rfl) (by decide) ?_
    refine j_iload_n (dk dt_X12_comeLine 19 rfl) rfl ?_
    refine j_iload (dk dt_X12_comeLine 20 rfl) rfl ?_
    refine j_iload (dk dt_X12_comeLine 21 rfl) rfl ?_
    refine j_callS3 (dk dt_X12_comeLine 22 rfl) sl_X12_825 (T_X12_onLine r_x1 r_x4 r_x5 H) rfl (by decide) (Nat.zero_le _) (Nat.zero_le _) (Nat.le_of_ble_eq_true rfl) (fun v_40 h_40 P_40 => ?_)
    obtain ⟨x_40, rfl, r_40, rfl, H⟩ := P_40
    dsimp only [rs]
    refine jz_iadd (dk dt_X12_comeLine 23 rfl) ?_
    refine j_aload_n (dk dt_X12_comeLine 24 rfl) rfl ?_
    refine jm_getA (dk dt_X12_comeLine 25 rfl) fl_X12_23 rfl (c := 14) rfl m ?_
    refine j_sipush (v := Int32.ofInt 320) (dk dt_X12_comeLine 26 rfl) (by decide) ?_
    refine j_iload_n (dk dt_X12_comeLine 27 rfl) rfl ?_
    refine jz_imul (dk dt_X12_comeLine 28 rfl) ?_
    refine j_iload_n (dk dt_X12_comeLine 29 rfl) rfl ?_
    refine j_iload_n (dk dt_X12_comeLine 30 rfl) rfl ?_
    refine j_iload (dk dt_X12_comeLine 31 rfl) rfl ?_
    refine j_callS3 (dk dt_X12_comeLine 32 rfl) sl_X12_825 (T_X12_onLine r_x1 r_x2 r_x5 H) rfl (by decide) (Nat.zero_le _) (Nat.zero_le _) (Nat.le_of_ble_eq_true rfl) (fun v_57 h_57 P_57 => ?_)
    obtain ⟨x_57, rfl, r_57, rfl, H⟩ := P_57
    dsimp only [rs]
    refine jz_iadd (dk dt_X12_comeLine 33 rfl) ?_
    obtain ⟨p_61, q_61, H⟩ := H
    refine jm_iald (dk dt_X12_comeLine 34 rfl) rfl rfl m p_61 q_61 ?_
    obtain ⟨p_62, q_62, H⟩ := H
    refine jm_iast (dk dt_X12_comeLine 35 rfl) rfl rfl m p_62 q_62 (m.2.1.1 _ _) (fun h_62 m_62 => ?_)
    replace H := H _ rfl
    refine jz_iinc (dk dt_X12_comeLine 36 rfl) rfl ?_
    refine j_goto 19 (dk dt_X12_comeLine 37 rfl) (by decide) ?_
    exact j_el (hl _ _ _ H m_62 (r32_w _)) (And.intro rfl (And.intro rfl (And.intro rfl (And.intro rfl (And.intro rfl (And.intro rfl trivial))))))
def F_X12_comeLine_19  (x1 : Int) (x2 : Int) (x3 : Int) (x4 : Int) (x5 : Int) (u : Mu) (P : Mu → Prop) : Prop :=
  lp (S := Int × Mu) (E := (Mu)) (fun q P_ => L_X12_comeLine_19 x1 x2 x3 x4 q.1 q.2 P_) (x5, u) (fun (u : Mu) => P u)
theorem T_X12_comeLine_19  {x1 : Int} {x2 : Int} {x3 : Int} {x4 : Int} {x5 : Int} {u : Mu} {P : Mu → Prop} {h : Hp} {g : Nat → Nat} (r_x1 : R32 x1) (r_x2 : R32 x2) (r_x3 : R32 x3) (r_x4 : R32 x4) (r_x5 : R32 x5) (m : Ms h g u)   (H : F_X12_comeLine_19 x1 x2 x3 x4 x5 u P) : J mX12_comeLine 2 0 0 (nx (QMV g P)) 19 [some (vr (some (g 0))), some (ii (x1)), some (ii (x2)), some (ii (x3)), some (ii (x4)), some (ii (x5))] [] h := by
  unfold F_X12_comeLine_19 at H
  refine lp_J (G := fun q => ∀ h : Hp, Ms h g (q.2) → R32 (q.1) → J mX12_comeLine 2 0 0 (nx (QMV g P)) 19 [some (vr (some (g 0))), some (ii (x1)), some (ii (x2)), some (ii (x3)), some (ii (x4)), some (ii ((q.1)))] [] h) (fun q P_ hl_ he_ Hb => ?_) (x5, u) H _ m r_x5
  obtain ⟨x5, u⟩ := q
  intro h m r_x5
  refine U_X12_comeLine_19 (P := P_) r_x1 r_x2 r_x3 r_x4 r_x5 m  (fun x5 u h Hp m r_x5 => hl_ (x5, u) Hp h m r_x5) ?_ Hb
  · intro u h Hp m
    have H := he_ _ Hp
    exact j_return (dk dt_X12_comeLine 38 rfl) rfl ⟨_, rfl, m, H⟩
def F_X12_comeLine  (x1 : Int) (x2 : Int) (x3 : Int) (x4 : Int) (u : Mu) (P : Mu → Prop) : Prop :=
  F_X12_lineAt x3 x1 x2 u (fun x_10 => F_X12_setLine 40 x1 x4 x_10 u (fun u_13 => F_X12_comeLine_19 x1 x2 x3 x4 0 u_13 P))
theorem T_X12_comeLine  {x1 : Int} {x2 : Int} {x3 : Int} {x4 : Int} {u : Mu} {P : Mu → Prop} {h : Hp} {g : Nat → Nat} (r_x1 : R32 x1) (r_x2 : R32 x2) (r_x3 : R32 x3) (r_x4 : R32 x4) (m : Ms h g u)  (H : F_X12_comeLine x1 x2 x3 x4 u P) : Con mX12_comeLine 2 0 0 [vr (some (g 0)), ii (x1), ii (x2), ii (x3), ii (x4)] h (QMV g P) := by
  refine con_of rfl (Nat.le_of_ble_eq_true rfl) (by decide) ?_
  show J mX12_comeLine 2 0 0 _ 0 [some (vr (some (g 0))), some (ii (x1)), some (ii (x2)), some (ii (x3)), some (ii (x4)), none] [] h
  unfold F_X12_comeLine at H
  refine j_aload_n (dk dt_X12_comeLine 0 rfl) rfl ?_
  refine j_bipush (v := Int32.ofInt 40) (dk dt_X12_comeLine 1 rfl) (by decide) ?_
  refine j_iload_n (dk dt_X12_comeLine 2 rfl) rfl ?_
  refine j_iload (dk dt_X12_comeLine 3 rfl) rfl ?_
  refine j_aload_n (dk dt_X12_comeLine 4 rfl) rfl ?_
  refine j_iload_n (dk dt_X12_comeLine 5 rfl) rfl ?_
  refine j_iload_n (dk dt_X12_comeLine 6 rfl) rfl ?_
  refine j_iload_n (dk dt_X12_comeLine 7 rfl) rfl ?_
  refine jz_callV3 (dk dt_X12_comeLine 8 rfl) vl_X12_213 rfl (T_X12_lineAt r_x3 r_x1 r_x2 m H) m.1.1 rfl (by decide) (Nat.zero_le _) (Nat.zero_le _) (Nat.le_of_ble_eq_true rfl) (fun v_10 h_10 P_10 => ?_)
  obtain ⟨x_10, rfl, r_10, rfl, H⟩ := P_10
  dsimp only [rs]
  refine jz_callV4 (dk dt_X12_comeLine 9 rfl) vl_X12_818 rfl (T_X12_setLine (by decide) r_x1 r_x4 r_10 m H) m.1.1 rfl (by decide) (Nat.zero_le _) (Nat.zero_le _) (Nat.le_of_ble_eq_true rfl) (fun v_13 h_13 P_13 => ?_)
  obtain ⟨u_13, rfl, m_13, H⟩ := P_13
  dsimp only [rs]
  refine j_iconst (v := Int32.ofInt 0) (dk dt_X12_comeLine 10 rfl) (by decide) ?_
  refine j_istore (dk dt_X12_comeLine 11 rfl) (by decide) ?_
  exact j_el (T_X12_comeLine_19 r_x1 r_x2 r_x3 r_x4 (by decide) m_13   H) (And.intro rfl (And.intro rfl (And.intro rfl (And.intro rfl (And.intro rfl (And.intro rfl trivial))))))
def L_X12_emptyLine_2  (x1 : Int) (x2 : Int) (x3 : Int) (u : Mu) (P : (Int × Mu) ⊕ ((Mu)) → Prop) : Prop :=
  F_X12_longOf x1 (fun x_4 => (if x_4 ≤ x3 then P (.inr u) else F_X12_onLine x1 x2 x3 (fun x_20 => (0 ≤ w32 (12800 + x_20) ∧ w32 (12800 + x_20) < 39040 ∧ (∀ u_25, u_25 = uI u 5 (w32 (12800 + x_20)) 0 → P (.inl (w32 (x3 + 1), u_25)))))))
theorem U_X12_emptyLine_2  {x1 : Int} {x2 : Int} {x3 : Int} {u : Mu} {P : (Int × Mu) ⊕ ((Mu)) → Prop} {h : Hp} {g : Nat → Nat} {post : Option Sv ⊕ String → Hp → Prop} (r_x1 : R32 x1) (r_x2 : R32 x2) (r_x3 : R32 x3) (m : Ms h g u)  (hl : ∀ (x3 : Int) (u : Mu) (h : Hp), P (.inl (x3, u)) → Ms h g u → R32 x3 → J mX12_emptyLine 2 0 0 post 2 [some (vr (some (g 0))), some (ii (x1)), some (ii (x2)), some (ii (x3))] [] h) (he0 : ∀ (u : Mu) (h : Hp), P (.inr u) → Ms h g u → J mX12_emptyLine 2 0 0 post 32 [none, none, none, none] [] h) (H : L_X12_emptyLine_2 x1 x2 x3 u P) : J mX12_emptyLine 2 0 0 post 2 [some (vr (some (g 0))), some (ii (x1)), some (ii (x2)), some (ii (x3))] [] h := by
  unfold L_X12_emptyLine_2 at H
  refine j_iload_n (dk dt_X12_emptyLine 2 rfl) rfl ?_
  refine j_iload_n (dk dt_X12_emptyLine 3 rfl) rfl ?_
  refine j_callS1 (dk dt_X12_emptyLine 4 rfl) sl_X12_822 (T_X12_longOf r_x1 H) rfl (by decide) (Nat.zero_le _) (Nat.zero_le _) (Nat.le_of_ble_eq_true rfl) (fun v_4 h_4 P_4 => ?_)
  obtain ⟨x_4, rfl, r_4, rfl, H⟩ := P_4
  dsimp only [rs]
  refine jz_icmp_ge 32 (dk dt_X12_emptyLine 5 rfl) (by decide) r_x3 r_4 H (fun H => ?_) (fun H => ?_)
  · exact j_el (he0 _ _ H m) trivial
  · refine j_aload_n (dk dt_X12_emptyLine 6 rfl) rfl ?_
    refine jm_getA (dk dt_X12_emptyLine 7 rfl) fl_X12_23 rfl (c := 14) rfl m ?_
    refine j_sipush (v := Int32.ofInt 12800) (dk dt_X12_emptyLine 8 rfl) (by decide) ?_
    refine j_iload_n (dk dt_X12_emptyLine 9 rfl) rfl ?_
    refine j_iload_n (dk dt_X12_emptyLine 10 rfl) rfl ?_
    refine j_iload_n (dk dt_X12_emptyLine 11 rfl) rfl ?_
    refine j_callS3 (dk dt_X12_emptyLine 12 rfl) sl_X12_825 (T_X12_onLine r_x1 r_x2 r_x3 H) rfl (by decide) (Nat.zero_le _) (Nat.zero_le _) (Nat.le_of_ble_eq_true rfl) (fun v_20 h_20 P_20 => ?_)
    obtain ⟨x_20, rfl, r_20, rfl, H⟩ := P_20
    dsimp only [rs]
    refine jz_iadd (dk dt_X12_emptyLine 13 rfl) ?_
    refine j_iconst (v := Int32.ofInt 0) (dk dt_X12_emptyLine 14 rfl) (by decide) ?_
    obtain ⟨p_25, q_25, H⟩ := H
    refine jm_iast (dk dt_X12_emptyLine 15 rfl) rfl rfl m p_25 q_25 (by decide) (fun h_25 m_25 => ?_)
    replace H := H _ rfl
    refine jz_iinc (dk dt_X12_emptyLine 16 rfl) rfl ?_
    refine j_goto 2 (dk dt_X12_emptyLine 17 rfl) (by decide) ?_
    exact j_el (hl _ _ _ H m_25 (r32_w _)) (And.intro rfl (And.intro rfl (And.intro rfl (And.intro rfl trivial))))
def F_X12_emptyLine_2  (x1 : Int) (x2 : Int) (x3 : Int) (u : Mu) (P : Mu → Prop) : Prop :=
  lp (S := Int × Mu) (E := (Mu)) (fun q P_ => L_X12_emptyLine_2 x1 x2 q.1 q.2 P_) (x3, u) (fun (u : Mu) => P u)
theorem T_X12_emptyLine_2  {x1 : Int} {x2 : Int} {x3 : Int} {u : Mu} {P : Mu → Prop} {h : Hp} {g : Nat → Nat} (r_x1 : R32 x1) (r_x2 : R32 x2) (r_x3 : R32 x3) (m : Ms h g u)   (H : F_X12_emptyLine_2 x1 x2 x3 u P) : J mX12_emptyLine 2 0 0 (nx (QMV g P)) 2 [some (vr (some (g 0))), some (ii (x1)), some (ii (x2)), some (ii (x3))] [] h := by
  unfold F_X12_emptyLine_2 at H
  refine lp_J (G := fun q => ∀ h : Hp, Ms h g (q.2) → R32 (q.1) → J mX12_emptyLine 2 0 0 (nx (QMV g P)) 2 [some (vr (some (g 0))), some (ii (x1)), some (ii (x2)), some (ii ((q.1)))] [] h) (fun q P_ hl_ he_ Hb => ?_) (x3, u) H _ m r_x3
  obtain ⟨x3, u⟩ := q
  intro h m r_x3
  refine U_X12_emptyLine_2 (P := P_) r_x1 r_x2 r_x3 m  (fun x3 u h Hp m r_x3 => hl_ (x3, u) Hp h m r_x3) ?_ Hb
  · intro u h Hp m
    have H := he_ _ Hp
    exact j_return (dk dt_X12_emptyLine 18 rfl) rfl ⟨_, rfl, m, H⟩
def F_X12_emptyLine  (x1 : Int) (x2 : Int) (u : Mu) (P : Mu → Prop) : Prop :=
  F_X12_emptyLine_2 x1 x2 0 u P
theorem T_X12_emptyLine  {x1 : Int} {x2 : Int} {u : Mu} {P : Mu → Prop} {h : Hp} {g : Nat → Nat} (r_x1 : R32 x1) (r_x2 : R32 x2) (m : Ms h g u)  (H : F_X12_emptyLine x1 x2 u P) : Con mX12_emptyLine 2 0 0 [vr (some (g 0)), ii (x1), ii (x2)] h (QMV g P) := by
  refine con_of rfl (Nat.le_of_ble_eq_true rfl) (by decide) ?_
  show J mX12_emptyLine 2 0 0 _ 0 [some (vr (some (g 0))), some (ii (x1)), some (ii (x2)), none] [] h
  unfold F_X12_emptyLine at H
  refine j_iconst (v := Int32.ofInt 0) (dk dt_X12_emptyLine 0 rfl) (by decide) ?_
  refine j_istore_n (dk dt_X12_emptyLine 1 rfl) (by decide) ?_
  exact j_el (T_X12_emptyLine_2 r_x1 r_x2 (by decide) m   H) (And.intro rfl (And.intro rfl (And.intro rfl (And.intro rfl trivial))))
def F_X12_setLines_21  (u : Mu) (P : Mu → Prop) : Prop :=
  P u
theorem T_X12_setLines_21  {u : Mu} {P : Mu → Prop} {h : Hp} {g : Nat → Nat}  (m : Ms h g u)   (H : F_X12_setLines_21 u P) : J mX12_setLines 1 0 0 (nx (QMV g P)) 21 [none, none, none, none] [] h := by
  unfold F_X12_setLines_21 at H
  exact j_return (dk dt_X12_setLines 13 rfl) rfl ⟨_, rfl, m, H⟩
def F_X12_setLines  (x1 : Int) (x2 : Int) (x3 : Int) (u : Mu) (P : Mu → Prop) : Prop :=
  (if x2 = 0 then (0 ≤ x1 ∧ x1 < 122 ∧ (∀ u_10, u_10 = uI u 1 x1 x3 → F_X12_setLines_21 u_10 P)) else (0 ≤ x1 ∧ x1 < 122 ∧ (∀ u_20, u_20 = uI u 2 x1 x3 → F_X12_setLines_21 u_20 P)))
theorem T_X12_setLines  {x1 : Int} {x2 : Int} {x3 : Int} {u : Mu} {P : Mu → Prop} {h : Hp} {g : Nat → Nat} (r_x1 : R32 x1) (r_x2 : R32 x2) (r_x3 : R32 x3) (m : Ms h g u)  (H : F_X12_setLines x1 x2 x3 u P) : Con mX12_setLines 1 0 0 [vr (some (g 0)), ii (x1), ii (x2), ii (x3)] h (QMV g P) := by
  refine con_of rfl (Nat.le_of_ble_eq_true rfl) (by decide) ?_
  show J mX12_setLines 1 0 0 _ 0 [some (vr (some (g 0))), some (ii (x1)), some (ii (x2)), some (ii (x3))] [] h
  unfold F_X12_setLines at H
  refine j_iload_n (dk dt_X12_setLines 0 rfl) rfl ?_
  refine jz_if_ne 14 (dk dt_X12_setLines 1 rfl) (by decide) r_x2 H (fun H => ?_) (fun H => ?_)
  · refine j_aload_n (dk dt_X12_setLines 2 rfl) rfl ?_
    refine jm_getA (dk dt_X12_setLines 3 rfl) fl_X12_7 rfl (c := 14) rfl m ?_
    refine j_iload_n (dk dt_X12_setLines 4 rfl) rfl ?_
    refine j_iload_n (dk dt_X12_setLines 5 rfl) rfl ?_
    obtain ⟨p_10, q_10, H⟩ := H
    refine jm_iast (dk dt_X12_setLines 6 rfl) rfl rfl m p_10 q_10 r_x3 (fun h_10 m_10 => ?_)
    replace H := H _ rfl
    refine j_goto 21 (dk dt_X12_setLines 7 rfl) (by decide) ?_
    exact j_el (T_X12_setLines_21  m_10   H) trivial
  · refine j_aload_n (dk dt_X12_setLines 8 rfl) rfl ?_
    refine jm_getA (dk dt_X12_setLines 9 rfl) fl_X12_13 rfl (c := 14) rfl m ?_
    refine j_iload_n (dk dt_X12_setLines 10 rfl) rfl ?_
    refine j_iload_n (dk dt_X12_setLines 11 rfl) rfl ?_
    obtain ⟨p_20, q_20, H⟩ := H
    refine jm_iast (dk dt_X12_setLines 12 rfl) rfl rfl m p_20 q_20 r_x3 (fun h_20 m_20 => ?_)
    replace H := H _ rfl
    exact j_el (T_X12_setLines_21  m_20   H) trivial
def L_X12_goLine_12  (x1 : Int) (x3 : Int) (x4 : Int) (x5 : Int) (u : Mu) (P : (Int × Mu) ⊕ ((Mu)) → Prop) : Prop :=
  (if x4 ≤ x5 then P (.inr u) else F_X12_comeLine x1 x5 x3 (w32 (x5 - 1)) u (fun u_28 => P (.inl (w32 (x5 + 1), u_28))))
theorem U_X12_goLine_12  {x1 : Int} {x3 : Int} {x4 : Int} {x5 : Int} {u : Mu} {P : (Int × Mu) ⊕ ((Mu)) → Prop} {h : Hp} {g : Nat → Nat} {post : Option Sv ⊕ String → Hp → Prop} (r_x1 : R32 x1) (r_x3 : R32 x3) (r_x4 : R32 x4) (r_x5 : R32 x5) (m : Ms h g u)  (hl : ∀ (x5 : Int) (u : Mu) (h : Hp), P (.inl (x5, u)) → Ms h g u → R32 x5 → J mX12_goLine 3 0 0 post 12 [some (vr (some (g 0))), some (ii (x1)), none, some (ii (x3)), some (ii (x4)), some (ii (x5))] [] h) (he0 : ∀ (u : Mu) (h : Hp), P (.inr u) → Ms h g u → J mX12_goLine 3 0 0 post 37 [some (vr (some (g 0))), some (ii (x1)), none, none, some (ii (x4)), none] [] h) (H : L_X12_goLine_12 x1 x3 x4 x5 u P) : J mX12_goLine 3 0 0 post 12 [some (vr (some (g 0))), some (ii (x1)), none, some (ii (x3)), some (ii (x4)), some (ii (x5))] [] h := by
  unfold L_X12_goLine_12 at H
  refine j_iload (dk dt_X12_goLine 7 rfl) rfl ?_
  refine j_iload (dk dt_X12_goLine 8 rfl) rfl ?_
  refine jz_icmp_ge 37 (dk dt_X12_goLine 9 rfl) (by decide) r_x5 r_x4 H (fun H => ?_) (fun H => ?_)
  · exact j_el (he0 _ _ H m) (And.intro rfl (And.intro rfl (And.intro rfl trivial)))
  · refine j_aload_n (dk dt_X12_goLine 10 rfl) rfl ?_
    refine j_iload_n (dk dt_X12_goLine 11 rfl) rfl ?_
    refine j_iload (dk dt_X12_goLine 12 rfl) rfl ?_
    refine j_iload_n (dk dt_X12_goLine 13 rfl) rfl ?_
    refine j_iload (dk dt_X12_goLine 14 rfl) rfl ?_
    refine j_iconst (v := Int32.ofInt 1) (dk dt_X12_goLine 15 rfl) (by decide) ?_
    refine jz_isub (dk dt_X12_goLine 16 rfl) ?_
    refine jz_callV4 (dk dt_X12_goLine 17 rfl) vl_X12_831 rfl (T_X12_comeLine r_x1 r_x5 r_x3 (r32_w _) m H) m.1.1 rfl (by decide) (Nat.zero_le _) (Nat.zero_le _) (Nat.le_of_ble_eq_true rfl) (fun v_28 h_28 P_28 => ?_)
    obtain ⟨u_28, rfl, m_28, H⟩ := P_28
    dsimp only [rs]
    refine jz_iinc (dk dt_X12_goLine 18 rfl) rfl ?_
    refine j_goto 12 (dk dt_X12_goLine 19 rfl) (by decide) ?_
    exact j_el (hl _ _ _ H m_28 (r32_w _)) (And.intro rfl (And.intro rfl (And.intro rfl (And.intro rfl (And.intro rfl trivial)))))
def F_X12_goLine_12  (x1 : Int) (x3 : Int) (x4 : Int) (x5 : Int) (u : Mu) (P : Mu → Prop) : Prop :=
  lp (S := Int × Mu) (E := (Mu)) (fun q P_ => L_X12_goLine_12 x1 x3 x4 q.1 q.2 P_) (x5, u) (fun (u : Mu) => F_X12_emptyLine x1 (w32 (x4 - 1)) u (fun u_43 => F_X12_setLines 40 x1 (w32 (x4 - 1)) u_43 (fun u_54 => P u_54)))
theorem T_X12_goLine_12  {x1 : Int} {x3 : Int} {x4 : Int} {x5 : Int} {u : Mu} {P : Mu → Prop} {h : Hp} {g : Nat → Nat} (r_x1 : R32 x1) (r_x3 : R32 x3) (r_x4 : R32 x4) (r_x5 : R32 x5) (m : Ms h g u)   (H : F_X12_goLine_12 x1 x3 x4 x5 u P) : J mX12_goLine 3 0 0 (nx (QMV g P)) 12 [some (vr (some (g 0))), some (ii (x1)), none, some (ii (x3)), some (ii (x4)), some (ii (x5))] [] h := by
  unfold F_X12_goLine_12 at H
  refine lp_J (G := fun q => ∀ h : Hp, Ms h g (q.2) → R32 (q.1) → J mX12_goLine 3 0 0 (nx (QMV g P)) 12 [some (vr (some (g 0))), some (ii (x1)), none, some (ii (x3)), some (ii (x4)), some (ii ((q.1)))] [] h) (fun q P_ hl_ he_ Hb => ?_) (x5, u) H _ m r_x5
  obtain ⟨x5, u⟩ := q
  intro h m r_x5
  refine U_X12_goLine_12 (P := P_) r_x1 r_x3 r_x4 r_x5 m  (fun x5 u h Hp m r_x5 => hl_ (x5, u) Hp h m r_x5) ?_ Hb
  · intro u h Hp m
    have H := he_ _ Hp
    refine j_aload_n (dk dt_X12_goLine 20 rfl) rfl ?_
    refine j_iload_n (dk dt_X12_goLine 21 rfl) rfl ?_
    refine j_iload (dk dt_X12_goLine 22 rfl) rfl ?_
    refine j_iconst (v := Int32.ofInt 1) (dk dt_X12_goLine 23 rfl) (by decide) ?_
    refine jz_isub (dk dt_X12_goLine 24 rfl) ?_
    refine jz_callV2 (dk dt_X12_goLine 25 rfl) vl_X12_834 rfl (T_X12_emptyLine r_x1 (r32_w _) m H) m.1.1 rfl (by decide) (Nat.zero_le _) (Nat.zero_le _) (Nat.le_of_ble_eq_true rfl) (fun v_43 h_43 P_43 => ?_)
    obtain ⟨u_43, rfl, m_43, H⟩ := P_43
    dsimp only [rs]
    refine j_aload_n (dk dt_X12_goLine 26 rfl) rfl ?_
    refine j_bipush (v := Int32.ofInt 40) (dk dt_X12_goLine 27 rfl) (by decide) ?_
    refine j_iload_n (dk dt_X12_goLine 28 rfl) rfl ?_
    refine j_iload (dk dt_X12_goLine 29 rfl) rfl ?_
    refine j_iconst (v := Int32.ofInt 1) (dk dt_X12_goLine 30 rfl) (by decide) ?_
    refine jz_isub (dk dt_X12_goLine 31 rfl) ?_
    refine jz_callV3 (dk dt_X12_goLine 32 rfl) vl_X12_828 rfl (T_X12_setLines (by decide) r_x1 (r32_w _) m_43 H) m_43.1.1 rfl (by decide) (Nat.zero_le _) (Nat.zero_le _) (Nat.le_of_ble_eq_true rfl) (fun v_54 h_54 P_54 => ?_)
    obtain ⟨u_54, rfl, m_54, H⟩ := P_54
    dsimp only [rs]
    exact j_return (dk dt_X12_goLine 33 rfl) rfl ⟨_, rfl, m_54, H⟩
def F_X12_goLine  (x1 : Int) (x2 : Int) (x3 : Int) (u : Mu) (P : Mu → Prop) : Prop :=
  F_X12_linesOf 40 x1 u (fun x_4 => F_X12_goLine_12 x1 x3 x_4 x2 u P)
theorem T_X12_goLine  {x1 : Int} {x2 : Int} {x3 : Int} {u : Mu} {P : Mu → Prop} {h : Hp} {g : Nat → Nat} (r_x1 : R32 x1) (r_x2 : R32 x2) (r_x3 : R32 x3) (m : Ms h g u)  (H : F_X12_goLine x1 x2 x3 u P) : Con mX12_goLine 3 0 0 [vr (some (g 0)), ii (x1), ii (x2), ii (x3)] h (QMV g P) := by
  refine con_of rfl (Nat.le_of_ble_eq_true rfl) (by decide) ?_
  show J mX12_goLine 3 0 0 _ 0 [some (vr (some (g 0))), some (ii (x1)), some (ii (x2)), some (ii (x3)), none, none] [] h
  unfold F_X12_goLine at H
  refine j_aload_n (dk dt_X12_goLine 0 rfl) rfl ?_
  refine j_bipush (v := Int32.ofInt 40) (dk dt_X12_goLine 1 rfl) (by decide) ?_
  refine j_iload_n (dk dt_X12_goLine 2 rfl) rfl ?_
  refine jz_callV2 (dk dt_X12_goLine 3 rfl) vl_X12_209 rfl (T_X12_linesOf (by decide) r_x1 m H) m.1.1 rfl (by decide) (Nat.zero_le _) (Nat.zero_le _) (Nat.le_of_ble_eq_true rfl) (fun v_4 h_4 P_4 => ?_)
  obtain ⟨x_4, rfl, r_4, rfl, H⟩ := P_4
  dsimp only [rs]
  refine j_istore (dk dt_X12_goLine 4 rfl) (by decide) ?_
  refine j_iload_n (dk dt_X12_goLine 5 rfl) rfl ?_
  refine j_istore (dk dt_X12_goLine 6 rfl) (by decide) ?_
  exact j_el (T_X12_goLine_12 r_x1 r_x3 r_4 r_x2 m   H) (And.intro rfl (And.intro rfl (And.intro rfl (And.intro rfl (And.intro rfl trivial)))))
def F_X12_setCell  (x1 : Int) (x2 : Int) (x3 : Int) (u : Mu) (P : Mu → Prop) : Prop :=
  (0 ≤ w32 ((w32 (w32 (12800 + (w32 (10 * (w32 (x1 - 1))))) + x2)) - 1) ∧ w32 ((w32 (w32 (12800 + (w32 (10 * (w32 (x1 - 1))))) + x2)) - 1) < 39040 ∧ (∀ u_19, u_19 = uI u 5 (w32 ((w32 (w32 (12800 + (w32 (10 * (w32 (x1 - 1))))) + x2)) - 1)) x3 → P u_19))
theorem T_X12_setCell  {x1 : Int} {x2 : Int} {x3 : Int} {u : Mu} {P : Mu → Prop} {h : Hp} {g : Nat → Nat} (r_x1 : R32 x1) (r_x2 : R32 x2) (r_x3 : R32 x3) (m : Ms h g u)  (H : F_X12_setCell x1 x2 x3 u P) : Con mX12_setCell 1 0 0 [vr (some (g 0)), ii (x1), ii (x2), ii (x3)] h (QMV g P) := by
  refine con_of rfl (Nat.le_of_ble_eq_true rfl) (by decide) ?_
  show J mX12_setCell 1 0 0 _ 0 [some (vr (some (g 0))), some (ii (x1)), some (ii (x2)), some (ii (x3))] [] h
  unfold F_X12_setCell at H
  refine j_aload_n (dk dt_X12_setCell 0 rfl) rfl ?_
  refine jm_getA (dk dt_X12_setCell 1 rfl) fl_X12_23 rfl (c := 14) rfl m ?_
  refine j_sipush (v := Int32.ofInt 12800) (dk dt_X12_setCell 2 rfl) (by decide) ?_
  refine j_bipush (v := Int32.ofInt 10) (dk dt_X12_setCell 3 rfl) (by decide) ?_
  refine j_iload_n (dk dt_X12_setCell 4 rfl) rfl ?_
  refine j_iconst (v := Int32.ofInt 1) (dk dt_X12_setCell 5 rfl) (by decide) ?_
  refine jz_isub (dk dt_X12_setCell 6 rfl) ?_
  refine jz_imul (dk dt_X12_setCell 7 rfl) ?_
  refine jz_iadd (dk dt_X12_setCell 8 rfl) ?_
  refine j_iload_n (dk dt_X12_setCell 9 rfl) rfl ?_
  refine jz_iadd (dk dt_X12_setCell 10 rfl) ?_
  refine j_iconst (v := Int32.ofInt 1) (dk dt_X12_setCell 11 rfl) (by decide) ?_
  refine jz_isub (dk dt_X12_setCell 12 rfl) ?_
  refine j_iload_n (dk dt_X12_setCell 13 rfl) rfl ?_
  obtain ⟨p_19, q_19, H⟩ := H
  refine jm_iast (dk dt_X12_setCell 14 rfl) rfl rfl m p_19 q_19 r_x3 (fun h_19 m_19 => ?_)
  replace H := H _ rfl
  exact j_return (dk dt_X12_setCell 15 rfl) rfl ⟨_, rfl, m_19, H⟩
