def F_X11_go_47  (z : Z) (c : Nat) (s : Nat) (P : Int → Z → Prop) (X : Nat → Z → Prop) : Prop :=
  (1 ≤ c ∧ 6 ≤ s ∧ X 3 z)
theorem T_X11_go_47  {z : Z} {c : Nat} {s : Nat} {P : Int → Z → Prop} {X : Nat → Z → Prop}  (hw : Wz z)   (H : F_X11_go_47 z c s P X) : J mX11_go 7 c s (QX (QZI P) X) 47 [none, none] [] (cz z) := by
  unfold F_X11_go_47 at H
  obtain ⟨hc_, hs_, H⟩ := H
  exact j_throw (E := "java/lang/IllegalStateException") ⟨167, 169, by decide, (dk dt_X11_go 23 rfl), (dk dt_X11_go 24 rfl), (dk dt_X11_go 25 rfl), (dk dt_X11_go 26 rfl)⟩ hc_ hs_ (Nat.le_of_ble_eq_true rfl) ⟨3, _, rfl, rfl, hw, H⟩
def F_X11_go  (t0 : Nat) (x1 : Int) (z : Z) (c : Nat) (s : Nat) (P : Int → Z → Prop) (X : Nat → Z → Prop) : Prop :=
  F_X11_isBranch x1 (fun x_1 => (if x_1 = 0 then (1 ≤ c ∧ 6 ≤ s ∧ X 0 z) else (zK z t0 = 12 ∧ (∃ a_20, zO z t0 8 = some a_20 ∧ zK z a_20 = 15 ∧ (0 ≤ x1 ∧ x1 < zN z a_20 ∧ (if zI z a_20 x1 = (-1) then (1 ≤ c ∧ 6 ≤ s ∧ X 4 z) else F_X11_isBusy t0 z (fun x_34 => (if x_34 = 0 then F_X11_isLikeHead t0 z (fun x_41 => (if x_41 = 0 then F_X11_go_47 z c s P X else (∀ z_57, z_57 = wI z t0 12 x1 → (∃ c_61 s_61, c_61 ≤ c ∧ s_61 ≤ s ∧ F_X11_drop t0 z_57 c_61 s_61 (fun x_61 z_61 => P x_61 z_61))))) else F_X11_go_47 z c s P X))))))))
theorem T_X11_go  {t0 : Nat} {x1 : Int} {z : Z} {c : Nat} {s : Nat} {P : Int → Z → Prop} {X : Nat → Z → Prop} (r_x1 : R32 x1) (hw : Wz z)  (H : F_X11_go t0 x1 z c s P X) : ConX mX11_go 7 c s [vr (some t0), ii (x1)] (cz z) (QX (QZI P) X) := by
  refine con_ofX rfl (Nat.le_of_ble_eq_true rfl) (by decide) (by decide) ?_
  show J mX11_go 7 c s _ 0 [some (vr (some t0)), some (ii (x1))] [] (cz z)
  unfold F_X11_go at H
  refine j_iload_n (dk dt_X11_go 0 rfl) rfl ?_
  refine j_callS1 (dk dt_X11_go 1 rfl) sl_X11_253 (T_X11_isBranch r_x1 H) rfl (by decide) (Nat.zero_le _) (Nat.zero_le _) (Nat.le_of_ble_eq_true rfl) (fun v_1 h_1 P_1 => ?_)
  obtain ⟨x_1, rfl, r_1, rfl, H⟩ := P_1
  dsimp only [rs]
  refine jz_if_ne 15 (dk dt_X11_go 2 rfl) (by decide) r_1 H (fun H => ?_) (fun H => ?_)
  · obtain ⟨hc_, hs_, H⟩ := H
    exact j_throw (E := "java/lang/IndexOutOfBoundsException") ⟨117, 119, by decide, (dk dt_X11_go 3 rfl), (dk dt_X11_go 4 rfl), (dk dt_X11_go 5 rfl), (dk dt_X11_go 6 rfl)⟩ hc_ hs_ (Nat.le_of_ble_eq_true rfl) ⟨0, _, rfl, rfl, hw, H⟩
  · refine j_aload_n (dk dt_X11_go 7 rfl) rfl ?_
    obtain ⟨k_16, H⟩ := H
    refine jz_getO (kz := 8) (dk dt_X11_go 8 rfl) fl_X11_70 rfl rfl rfl k_16 ?_
    refine j_iload_n (dk dt_X11_go 9 rfl) rfl ?_
    obtain ⟨a_20, e_20, k_20, H⟩ := H
    obtain ⟨p_20, q_20, H⟩ := H
    refine jz_iald (dk dt_X11_go 10 rfl) e_20 k_20 p_20 q_20 hw ?_
    refine j_iconst (v := Int32.ofInt (-1)) (dk dt_X11_go 11 rfl) (by decide) ?_
    refine jz_icmp_ne 33 (dk dt_X11_go 12 rfl) (by decide) (hw.1 _ _) (by decide) H (fun H => ?_) (fun H => ?_)
    · obtain ⟨hc_, hs_, H⟩ := H
      exact j_throw (E := "java/util/NoSuchElementException") ⟨223, 225, by decide, (dk dt_X11_go 13 rfl), (dk dt_X11_go 14 rfl), (dk dt_X11_go 15 rfl), (dk dt_X11_go 16 rfl)⟩ hc_ hs_ (Nat.le_of_ble_eq_true rfl) ⟨4, _, rfl, rfl, hw, H⟩
    · refine j_aload_n (dk dt_X11_go 17 rfl) rfl ?_
      refine jz_callV0 (dk dt_X11_go 18 rfl) vl_X11_256 rfl (T_X11_isBusy hw H) k_16 rfl (by decide) (Nat.zero_le _) (Nat.zero_le _) (Nat.le_of_ble_eq_true rfl) (fun v_34 h_34 P_34 => ?_)
      obtain ⟨x_34, rfl, r_34, rfl, H⟩ := P_34
      dsimp only [rs]
      refine jz_if_ne 47 (dk dt_X11_go 19 rfl) (by decide) r_34 H (fun H => ?_) (fun H => ?_)
      · refine j_aload_n (dk dt_X11_go 20 rfl) rfl ?_
        refine jz_callV0 (dk dt_X11_go 21 rfl) vl_X11_260 rfl (T_X11_isLikeHead hw H) k_16 rfl (by decide) (Nat.zero_le _) (Nat.zero_le _) (Nat.le_of_ble_eq_true rfl) (fun v_41 h_41 P_41 => ?_)
        obtain ⟨x_41, rfl, r_41, rfl, H⟩ := P_41
        dsimp only [rs]
        refine jz_if_ne 55 (dk dt_X11_go 22 rfl) (by decide) r_41 H (fun H => ?_) (fun H => ?_)
        · exact j_el (T_X11_go_47  hw   H) trivial
        · refine j_aload_n (dk dt_X11_go 27 rfl) rfl ?_
          refine j_iload_n (dk dt_X11_go 28 rfl) rfl ?_
          refine jz_putI (kz := 12) (dk dt_X11_go 29 rfl) fl_X11_246 rfl rfl rfl rfl rfl k_16 hw r_x1 (fun w_57 => ?_)
          replace H := H _ rfl
          refine j_aload_n (dk dt_X11_go 30 rfl) rfl ?_
          obtain ⟨c_61, s_61, hc_61, hs_61, H⟩ := H
          refine jz_callV0 (dk dt_X11_go 31 rfl) vl_X11_263 rfl (T_X11_drop w_57 H) k_16 rfl (by decide) hc_61 hs_61 (Nat.le_of_ble_eq_true rfl) (fun v_61 h_61 P_61 => ?_)
          obtain ⟨x_61, z_61, rfl, r_61, rfl, w_61, H⟩ := P_61
          dsimp only [rs]
          exact j_ireturn (dk dt_X11_go 32 rfl) rfl rfl ⟨_, _, rfl, r_61, rfl, w_61, H⟩
      · exact j_el (T_X11_go_47  hw   H) trivial
def F_X11_isAxis_14  (s0 : Int) (P : Int → Prop) : Prop :=
  (Z1 s0 ∧ P s0)
theorem T_X11_isAxis_14  {s0 : Int} {P : Int → Prop} {h : Hp} (r_s0 : R32 s0)    (H : F_X11_isAxis_14 s0 P) : J mX11_isAxis 1 0 0 (nx (QPI h P)) 14 [none] [ii (s0)] h := by
  unfold F_X11_isAxis_14 at H
  obtain ⟨hz_, H⟩ := H
  exact j_ireturn (dk dt_X11_isAxis 8 rfl) rfl (nar_z hz_) ⟨_, rfl, r_s0, rfl, H⟩
def F_X11_isAxis_9  (P : Int → Prop) : Prop :=
  F_X11_isAxis_14 1 P
theorem T_X11_isAxis_9  {P : Int → Prop} {h : Hp}     (H : F_X11_isAxis_9 P) : J mX11_isAxis 1 0 0 (nx (QPI h P)) 9 [none] [] h := by
  unfold F_X11_isAxis_9 at H
  refine j_iconst (v := Int32.ofInt 1) (dk dt_X11_isAxis 5 rfl) (by decide) ?_
  refine j_goto 14 (dk dt_X11_isAxis 6 rfl) (by decide) ?_
  exact j_el (T_X11_isAxis_14 (by decide)    H) trivial
def F_X11_isAxis  (x0 : Int) (P : Int → Prop) : Prop :=
  (if x0 = 0 then F_X11_isAxis_9  P else (if x0 = 1 then F_X11_isAxis_9  P else F_X11_isAxis_14 0 P))
theorem T_X11_isAxis  {x0 : Int} {P : Int → Prop} {h : Hp} (r_x0 : R32 x0)   (H : F_X11_isAxis x0 P) : Con mX11_isAxis 1 0 0 [ii (x0)] h (QPI h P) := by
  refine con_of rfl (Nat.le_of_ble_eq_true rfl) (by decide) ?_
  show J mX11_isAxis 1 0 0 _ 0 [some (ii (x0))] [] h
  unfold F_X11_isAxis at H
  refine j_iload_n (dk dt_X11_isAxis 0 rfl) rfl ?_
  refine jz_if_eq 9 (dk dt_X11_isAxis 1 rfl) (by decide) r_x0 H (fun H => ?_) (fun H => ?_)
  · exact j_el (T_X11_isAxis_9     H) trivial
  · refine j_iload_n (dk dt_X11_isAxis 2 rfl) rfl ?_
    refine j_iconst (v := Int32.ofInt 1) (dk dt_X11_isAxis 3 rfl) (by decide) ?_
    refine jz_icmp_ne 13 (dk dt_X11_isAxis 4 rfl) (by decide) r_x0 (by decide) H (fun H => ?_) (fun H => ?_)
    · exact j_el (T_X11_isAxis_9     H) trivial
    · refine j_iconst (v := Int32.ofInt 0) (dk dt_X11_isAxis 7 rfl) (by decide) ?_
      exact j_el (T_X11_isAxis_14 (by decide)    H) trivial
def F_X11_mostOf_11  (s0 : Int) (P : Int → Prop) : Prop :=
  P s0
theorem T_X11_mostOf_11  {s0 : Int} {P : Int → Prop} {h : Hp} (r_s0 : R32 s0)    (H : F_X11_mostOf_11 s0 P) : J mX11_mostOf 1 0 0 (nx (QPI h P)) 11 [none] [ii (s0)] h := by
  unfold F_X11_mostOf_11 at H
  exact j_ireturn (dk dt_X11_mostOf 5 rfl) rfl rfl ⟨_, rfl, r_s0, rfl, H⟩
def F_X11_mostOf  (x0 : Int) (P : Int → Prop) : Prop :=
  (if x0 = 0 then F_X11_mostOf_11 32 P else F_X11_mostOf_11 10 P)
theorem T_X11_mostOf  {x0 : Int} {P : Int → Prop} {h : Hp} (r_x0 : R32 x0)   (H : F_X11_mostOf x0 P) : Con mX11_mostOf 1 0 0 [ii (x0)] h (QPI h P) := by
  refine con_of rfl (Nat.le_of_ble_eq_true rfl) (by decide) ?_
  show J mX11_mostOf 1 0 0 _ 0 [some (ii (x0))] [] h
  unfold F_X11_mostOf at H
  refine j_iload_n (dk dt_X11_mostOf 0 rfl) rfl ?_
  refine jz_if_ne 9 (dk dt_X11_mostOf 1 rfl) (by decide) r_x0 H (fun H => ?_) (fun H => ?_)
  · refine j_bipush (v := Int32.ofInt 32) (dk dt_X11_mostOf 2 rfl) (by decide) ?_
    refine j_goto 11 (dk dt_X11_mostOf 3 rfl) (by decide) ?_
    exact j_el (T_X11_mostOf_11 (by decide)    H) trivial
  · refine j_bipush (v := Int32.ofInt 10) (dk dt_X11_mostOf 4 rfl) (by decide) ?_
    exact j_el (T_X11_mostOf_11 (by decide)    H) trivial
def F_X11_newcomer  (t0 : Nat) (x1 : Int) (z : Z) (P : Int → Z → Prop) : Prop :=
  (if x1 = 0 then (zK z t0 = 12 ∧ (∀ z_11, z_11 = wI z t0 16 (w32 (zI z t0 16 + 1)) → P (zI z_11 t0 16) z_11)) else (zK z t0 = 12 ∧ (∀ z_26, z_26 = wI z t0 17 (w32 (zI z t0 17 + 1)) → P (zI z_26 t0 17) z_26)))
theorem T_X11_newcomer  {t0 : Nat} {x1 : Int} {z : Z} {P : Int → Z → Prop} (r_x1 : R32 x1) (hw : Wz z)  (H : F_X11_newcomer t0 x1 z P) : Con mX11_newcomer 1 0 0 [vr (some t0), ii (x1)] (cz z) (QZI P) := by
  refine con_of rfl (Nat.le_of_ble_eq_true rfl) (by decide) ?_
  show J mX11_newcomer 1 0 0 _ 0 [some (vr (some t0)), some (ii (x1))] [] (cz z)
  unfold F_X11_newcomer at H
  refine j_iload_n (dk dt_X11_newcomer 0 rfl) rfl ?_
  refine jz_if_ne 19 (dk dt_X11_newcomer 1 rfl) (by decide) r_x1 H (fun H => ?_) (fun H => ?_)
  · refine j_aload_n (dk dt_X11_newcomer 2 rfl) rfl ?_
    refine j_dup (dk dt_X11_newcomer 3 rfl) rfl ?_
    obtain ⟨k_6, H⟩ := H
    refine jz_getI (kz := 16) (dk dt_X11_newcomer 4 rfl) fl_X11_81 rfl rfl rfl k_6 ?_
    refine j_iconst (v := Int32.ofInt 1) (dk dt_X11_newcomer 5 rfl) (by decide) ?_
    refine jz_iadd (dk dt_X11_newcomer 6 rfl) ?_
    refine jz_putI (kz := 16) (dk dt_X11_newcomer 7 rfl) fl_X11_81 rfl rfl rfl rfl rfl k_6 hw (r32_w _) (fun w_11 => ?_)
    replace H := H _ rfl
    refine j_aload_n (dk dt_X11_newcomer 8 rfl) rfl ?_
    refine jz_getI (kz := 16) (dk dt_X11_newcomer 9 rfl) fl_X11_81 rfl rfl rfl k_6 ?_
    exact j_ireturn (dk dt_X11_newcomer 10 rfl) rfl rfl ⟨_, _, rfl, (w_11.1 _ _), rfl, w_11, H⟩
  · refine j_aload_n (dk dt_X11_newcomer 11 rfl) rfl ?_
    refine j_dup (dk dt_X11_newcomer 12 rfl) rfl ?_
    obtain ⟨k_21, H⟩ := H
    refine jz_getI (kz := 17) (dk dt_X11_newcomer 13 rfl) fl_X11_84 rfl rfl rfl k_21 ?_
    refine j_iconst (v := Int32.ofInt 1) (dk dt_X11_newcomer 14 rfl) (by decide) ?_
    refine jz_iadd (dk dt_X11_newcomer 15 rfl) ?_
    refine jz_putI (kz := 17) (dk dt_X11_newcomer 16 rfl) fl_X11_84 rfl rfl rfl rfl rfl k_21 hw (r32_w _) (fun w_26 => ?_)
    replace H := H _ rfl
    refine j_aload_n (dk dt_X11_newcomer 17 rfl) rfl ?_
    refine jz_getI (kz := 17) (dk dt_X11_newcomer 18 rfl) fl_X11_84 rfl rfl rfl k_21 ?_
    exact j_ireturn (dk dt_X11_newcomer 19 rfl) rfl rfl ⟨_, _, rfl, (w_26.1 _ _), rfl, w_26, H⟩
def F_X11_with_60  (x0 : Option Nat) (x1 : Int) (x2 : Int) (x3 : Option Nat) (x4 : Int) (s0 : Option Nat) (s1 : Int) (s2 : Int) (z : Z) (c : Nat) (s : Nat) (P : (Int × Z) ⊕ ((Z)) → Prop) : Prop :=
  (∃ a_60, s0 = some a_60 ∧ zK z a_60 = 15 ∧ (0 ≤ s1 ∧ s1 < zN z a_60 ∧ (∀ z_60, z_60 = wI z a_60 s1 s2 → P (.inl (w32 (x4 + 1), z_60)))))
theorem T_X11_with_60  {x0 : Option Nat} {x1 : Int} {x2 : Int} {x3 : Option Nat} {x4 : Int} {s0 : Option Nat} {s1 : Int} {s2 : Int} {z : Z} {c : Nat} {s : Nat} {P : (Int × Z) ⊕ ((Z)) → Prop} {post : Option Sv ⊕ String → Hp → Prop} (r_x1 : R32 x1) (r_x2 : R32 x2) (r_x4 : R32 x4) (r_s1 : R32 s1) (r_s2 : R32 s2) (hw : Wz z)  (hl : ∀ (x4 : Int) (z : Z), P (.inl (x4, z)) → Wz z → R32 x4 → J mX11_with 1 c s post 10 [some (vr (x0)), some (ii (x1)), some (ii (x2)), some (vr (x3)), some (ii (x4)), none] [] (cz z)) (he0 : ∀ (z : Z), P (.inr z) → Wz z → J mX11_with 1 c s post 67 [none, none, none, some (vr (x3)), none, none] [] (cz z)) (H : F_X11_with_60 x0 x1 x2 x3 x4 s0 s1 s2 z c s P) : J mX11_with 1 c s (post) 60 [some (vr (x0)), some (ii (x1)), some (ii (x2)), some (vr (x3)), some (ii (x4)), none] [ii (s2), ii (s1), vr (s0)] (cz z) := by
  unfold F_X11_with_60 at H
  obtain ⟨a_60, e_60, k_60, H⟩ := H
  obtain ⟨p_60, q_60, H⟩ := H
  refine jz_iast (dk dt_X11_with 37 rfl) e_60 k_60 p_60 q_60 hw r_s2 (fun w_60 => ?_)
  replace H := H _ rfl
  refine jz_iinc (dk dt_X11_with 38 rfl) rfl ?_
  refine j_goto 10 (dk dt_X11_with 39 rfl) (by decide) ?_
  exact j_el (hl _ _ H w_60 (r32_w _)) (And.intro rfl (And.intro rfl (And.intro rfl (And.intro rfl (And.intro rfl trivial)))))
def F_X11_with_52  (x0 : Option Nat) (x1 : Int) (x2 : Int) (x3 : Option Nat) (x4 : Int) (s0 : Option Nat) (s1 : Int) (z : Z) (c : Nat) (s : Nat) (P : (Int × Z) ⊕ ((Z)) → Prop) : Prop :=
  F_X11_with_60 x0 x1 x2 x3 x4 s0 s1 x2 z c s P
theorem T_X11_with_52  {x0 : Option Nat} {x1 : Int} {x2 : Int} {x3 : Option Nat} {x4 : Int} {s0 : Option Nat} {s1 : Int} {z : Z} {c : Nat} {s : Nat} {P : (Int × Z) ⊕ ((Z)) → Prop} {post : Option Sv ⊕ String → Hp → Prop} (r_x1 : R32 x1) (r_x2 : R32 x2) (r_x4 : R32 x4) (r_s1 : R32 s1) (hw : Wz z)  (hl : ∀ (x4 : Int) (z : Z), P (.inl (x4, z)) → Wz z → R32 x4 → J mX11_with 1 c s post 10 [some (vr (x0)), some (ii (x1)), some (ii (x2)), some (vr (x3)), some (ii (x4)), none] [] (cz z)) (he0 : ∀ (z : Z), P (.inr z) → Wz z → J mX11_with 1 c s post 67 [none, none, none, some (vr (x3)), none, none] [] (cz z)) (H : F_X11_with_52 x0 x1 x2 x3 x4 s0 s1 z c s P) : J mX11_with 1 c s (post) 52 [some (vr (x0)), some (ii (x1)), some (ii (x2)), some (vr (x3)), some (ii (x4)), none] [ii (s1), vr (s0)] (cz z) := by
  unfold F_X11_with_52 at H
  refine j_iload_n (dk dt_X11_with 32 rfl) rfl ?_
  refine j_goto 60 (dk dt_X11_with 33 rfl) (by decide) ?_
  exact j_el (T_X11_with_60 r_x1 r_x2 r_x4 r_s1 r_x2 hw  hl he0 H) (And.intro rfl (And.intro rfl (And.intro rfl (And.intro rfl (And.intro rfl trivial)))))
def F_X11_with_34  (x0 : Option Nat) (x1 : Int) (x2 : Int) (x3 : Option Nat) (x4 : Int) (s0 : Int) (z : Z) (c : Nat) (s : Nat) (P : (Int × Z) ⊕ ((Z)) → Prop) : Prop :=
  (if x4 = w32 (x1 - 1) then F_X11_with_52 x0 x1 x2 x3 x4 x3 x4 z c s P else (if 0 ≤ s0 then (∃ a_59, x0 = some a_59 ∧ zK z a_59 = 15 ∧ (0 ≤ s0 ∧ s0 < zN z a_59 ∧ F_X11_with_60 x0 x1 x2 x3 x4 x3 x4 (zI z a_59 s0) z c s P)) else F_X11_with_52 x0 x1 x2 x3 x4 x3 x4 z c s P))
theorem T_X11_with_34  {x0 : Option Nat} {x1 : Int} {x2 : Int} {x3 : Option Nat} {x4 : Int} {s0 : Int} {z : Z} {c : Nat} {s : Nat} {P : (Int × Z) ⊕ ((Z)) → Prop} {post : Option Sv ⊕ String → Hp → Prop} (r_x1 : R32 x1) (r_x2 : R32 x2) (r_x4 : R32 x4) (r_s0 : R32 s0) (hw : Wz z)  (hl : ∀ (x4 : Int) (z : Z), P (.inl (x4, z)) → Wz z → R32 x4 → J mX11_with 1 c s post 10 [some (vr (x0)), some (ii (x1)), some (ii (x2)), some (vr (x3)), some (ii (x4)), none] [] (cz z)) (he0 : ∀ (z : Z), P (.inr z) → Wz z → J mX11_with 1 c s post 67 [none, none, none, some (vr (x3)), none, none] [] (cz z)) (H : F_X11_with_34 x0 x1 x2 x3 x4 s0 z c s P) : J mX11_with 1 c s (post) 34 [some (vr (x0)), some (ii (x1)), some (ii (x2)), some (vr (x3)), some (ii (x4)), none] [ii (s0)] (cz z) := by
  unfold F_X11_with_34 at H
  refine j_istore (dk dt_X11_with 22 rfl) (by decide) ?_
  refine j_aload_n (dk dt_X11_with 23 rfl) rfl ?_
  refine j_iload (dk dt_X11_with 24 rfl) rfl ?_
  refine j_iload (dk dt_X11_with 25 rfl) rfl ?_
  refine j_iload_n (dk dt_X11_with 26 rfl) rfl ?_
  refine j_iconst (v := Int32.ofInt 1) (dk dt_X11_with 27 rfl) (by decide) ?_
  refine jz_isub (dk dt_X11_with 28 rfl) ?_
  refine jz_icmp_eq 52 (dk dt_X11_with 29 rfl) (by decide) r_x4 (r32_w _) H (fun H => ?_) (fun H => ?_)
  · exact j_el (T_X11_with_52 r_x1 r_x2 r_x4 r_x4 hw  hl he0 H) (And.intro rfl (And.intro rfl (And.intro rfl (And.intro rfl (And.intro rfl trivial)))))
  · refine j_iload (dk dt_X11_with 30 rfl) rfl ?_
    refine jz_if_ge 56 (dk dt_X11_with 31 rfl) (by decide) r_s0 H (fun H => ?_) (fun H => ?_)
    · refine j_aload_n (dk dt_X11_with 34 rfl) rfl ?_
      refine j_iload (dk dt_X11_with 35 rfl) rfl ?_
      obtain ⟨a_59, e_59, k_59, H⟩ := H
      obtain ⟨p_59, q_59, H⟩ := H
      refine jz_iald (dk dt_X11_with 36 rfl) e_59 k_59 p_59 q_59 hw ?_
      exact j_el (T_X11_with_60 r_x1 r_x2 r_x4 r_x4 (hw.1 _ _) hw  hl he0 H) (And.intro rfl (And.intro rfl (And.intro rfl (And.intro rfl (And.intro rfl trivial)))))
    · exact j_el (T_X11_with_52 r_x1 r_x2 r_x4 r_x4 hw  hl he0 H) (And.intro rfl (And.intro rfl (And.intro rfl (And.intro rfl (And.intro rfl trivial)))))
def L_X11_with_10  (x0 : Option Nat) (x1 : Int) (x2 : Int) (x3 : Option Nat) (x4 : Int) (z : Z) (c : Nat) (s : Nat) (P : (Int × Z) ⊕ ((Z)) → Prop) : Prop :=
  (∃ a_13, x3 = some a_13 ∧ zK z a_13 = 15 ∧ (if zN z a_13 ≤ x4 then P (.inr z) else (if w32 (x1 - 1) ≤ x4 then F_X11_with_34 x0 x1 x2 x3 x4 (w32 (x4 - 1)) z c s P else F_X11_with_34 x0 x1 x2 x3 x4 x4 z c s P)))
theorem U_X11_with_10  {x0 : Option Nat} {x1 : Int} {x2 : Int} {x3 : Option Nat} {x4 : Int} {z : Z} {c : Nat} {s : Nat} {P : (Int × Z) ⊕ ((Z)) → Prop} {post : Option Sv ⊕ String → Hp → Prop} (r_x1 : R32 x1) (r_x2 : R32 x2) (r_x4 : R32 x4) (hw : Wz z)  (hl : ∀ (x4 : Int) (z : Z), P (.inl (x4, z)) → Wz z → R32 x4 → J mX11_with 1 c s post 10 [some (vr (x0)), some (ii (x1)), some (ii (x2)), some (vr (x3)), some (ii (x4)), none] [] (cz z)) (he0 : ∀ (z : Z), P (.inr z) → Wz z → J mX11_with 1 c s post 67 [none, none, none, some (vr (x3)), none, none] [] (cz z)) (H : L_X11_with_10 x0 x1 x2 x3 x4 z c s P) : J mX11_with 1 c s post 10 [some (vr (x0)), some (ii (x1)), some (ii (x2)), some (vr (x3)), some (ii (x4)), none] [] (cz z) := by
  unfold L_X11_with_10 at H
  refine j_iload (dk dt_X11_with 8 rfl) rfl ?_
  refine j_aload_n (dk dt_X11_with 9 rfl) rfl ?_
  obtain ⟨a_13, e_13, k_13, H⟩ := H
  refine jz_alen (t := 1) (dk dt_X11_with 10 rfl) e_13 k_13 (by decide) hw ?_
  refine jz_icmp_ge 67 (dk dt_X11_with 11 rfl) (by decide) r_x4 (r32_len hw _) H (fun H => ?_) (fun H => ?_)
  · exact j_el (he0 _ H hw) (And.intro rfl trivial)
  · refine j_iload (dk dt_X11_with 12 rfl) rfl ?_
    refine j_iload_n (dk dt_X11_with 13 rfl) rfl ?_
    refine j_iconst (v := Int32.ofInt 1) (dk dt_X11_with 14 rfl) (by decide) ?_
    refine jz_isub (dk dt_X11_with 15 rfl) ?_
    refine jz_icmp_ge 30 (dk dt_X11_with 16 rfl) (by decide) r_x4 (r32_w _) H (fun H => ?_) (fun H => ?_)
    · refine j_iload (dk dt_X11_with 19 rfl) rfl ?_
      refine j_iconst (v := Int32.ofInt 1) (dk dt_X11_with 20 rfl) (by decide) ?_
      refine jz_isub (dk dt_X11_with 21 rfl) ?_
      exact j_el (T_X11_with_34 r_x1 r_x2 r_x4 (r32_w _) hw  hl he0 H) (And.intro rfl (And.intro rfl (And.intro rfl (And.intro rfl (And.intro rfl trivial)))))
    · refine j_iload (dk dt_X11_with 17 rfl) rfl ?_
      refine j_goto 34 (dk dt_X11_with 18 rfl) (by decide) ?_
      exact j_el (T_X11_with_34 r_x1 r_x2 r_x4 r_x4 hw  hl he0 H) (And.intro rfl (And.intro rfl (And.intro rfl (And.intro rfl (And.intro rfl trivial)))))
def F_X11_with_10  (x0 : Option Nat) (x1 : Int) (x2 : Int) (x3 : Option Nat) (x4 : Int) (z : Z) (c : Nat) (s : Nat) (P : Option Nat → Z → Prop) : Prop :=
  lp (S := Int × Z) (E := (Z)) (fun q P_ => L_X11_with_10 x0 x1 x2 x3 q.1 q.2 c s P_) (x4, z) (fun (z : Z) => P x3 z)
theorem T_X11_with_10  {x0 : Option Nat} {x1 : Int} {x2 : Int} {x3 : Option Nat} {x4 : Int} {z : Z} {c : Nat} {s : Nat} {P : Option Nat → Z → Prop} (r_x1 : R32 x1) (r_x2 : R32 x2) (r_x4 : R32 x4) (hw : Wz z)   (H : F_X11_with_10 x0 x1 x2 x3 x4 z c s P) : J mX11_with 1 c s (nx (QZA P)) 10 [some (vr (x0)), some (ii (x1)), some (ii (x2)), some (vr (x3)), some (ii (x4)), none] [] (cz z) := by
  unfold F_X11_with_10 at H
  refine lp_J (G := fun q => Wz (q.2) → R32 (q.1) → J mX11_with 1 c s (nx (QZA P)) 10 [some (vr (x0)), some (ii (x1)), some (ii (x2)), some (vr (x3)), some (ii ((q.1))), none] [] (cz (q.2))) (fun q P_ hl_ he_ Hb => ?_) (x4, z) H hw r_x4
  obtain ⟨x4, z⟩ := q
  intro hw r_x4
  refine U_X11_with_10 (P := P_) r_x1 r_x2 r_x4 hw  (fun x4 z Hp hw r_x4 => hl_ (x4, z) Hp hw r_x4) ?_ Hb
  · intro z Hp hw
    have H := he_ _ Hp
    refine j_aload_n (dk dt_X11_with 40 rfl) rfl ?_
    exact j_areturn (dk dt_X11_with 41 rfl) rfl rfl ⟨_, _, rfl, rfl, hw, H⟩
def F_X11_with  (x0 : Option Nat) (x1 : Int) (x2 : Int) (z : Z) (c : Nat) (s : Nat) (P : Option Nat → Z → Prop) : Prop :=
  (∃ a_1, x0 = some a_1 ∧ zK z a_1 = 15 ∧ (0 ≤ w32 (zN z a_1 + 1) ∧ w32 (zN z a_1 + 1) < (33554432 : Int) ∧ 1 ≤ c ∧ Int.toNat (w32 (zN z a_1 + 1)) ≤ s ∧ ∀ a_4, zK z a_4 = 0 → (∀ z_4, z_4 = nZ z a_4 15 (w32 (zN z a_1 + 1)) → F_X11_with_10 x0 x1 x2 (some a_4) 0 z_4 (c - 1) (s - Int.toNat (w32 (zN z a_1 + 1))) P)))
theorem T_X11_with  {x0 : Option Nat} {x1 : Int} {x2 : Int} {z : Z} {c : Nat} {s : Nat} {P : Option Nat → Z → Prop} (r_x1 : R32 x1) (r_x2 : R32 x2) (hw : Wz z)  (H : F_X11_with x0 x1 x2 z c s P) : Con mX11_with 1 c s [vr (x0), ii (x1), ii (x2)] (cz z) (QZA P) := by
  refine con_of rfl (Nat.le_of_ble_eq_true rfl) (by decide) ?_
  show J mX11_with 1 c s _ 0 [some (vr (x0)), some (ii (x1)), some (ii (x2)), none, none, none] [] (cz z)
  unfold F_X11_with at H
  refine j_aload_n (dk dt_X11_with 0 rfl) rfl ?_
  obtain ⟨a_1, e_1, k_1, H⟩ := H
  refine jz_alen (t := 1) (dk dt_X11_with 1 rfl) e_1 k_1 (by decide) hw ?_
  refine j_iconst (v := Int32.ofInt 1) (dk dt_X11_with 2 rfl) (by decide) ?_
  refine jz_iadd (dk dt_X11_with 3 rfl) ?_
  obtain ⟨p_4, q_4, hc_4, hs_4, H⟩ := H
  refine jz_newI (dk dt_X11_with 4 rfl) p_4 q_4 hc_4 hs_4 hw (fun a_4 e_4 w_4 => ?_)
  replace H := H a_4 e_4
  replace H := H _ rfl
  refine j_astore_n (dk dt_X11_with 5 rfl) (by decide) ?_
  refine j_iconst (v := Int32.ofInt 0) (dk dt_X11_with 6 rfl) (by decide) ?_
  refine j_istore (dk dt_X11_with 7 rfl) (by decide) ?_
  exact j_el (T_X11_with_10 r_x1 r_x2 (by decide) w_4   H) (And.intro rfl (And.intro rfl (And.intro rfl (And.intro rfl (And.intro rfl trivial)))))
def F_X11_insert_37  (z : Z) (c : Nat) (s : Nat) (P : Int → Z → Prop) (X : Nat → Z → Prop) : Prop :=
  (1 ≤ c ∧ 6 ≤ s ∧ X 0 z)
theorem T_X11_insert_37  {z : Z} {c : Nat} {s : Nat} {P : Int → Z → Prop} {X : Nat → Z → Prop}  (hw : Wz z)   (H : F_X11_insert_37 z c s P X) : J mX11_insert 6 c s (QX (QZI P) X) 37 [none, none, none, none, none] [] (cz z) := by
  unfold F_X11_insert_37 at H
  obtain ⟨hc_, hs_, H⟩ := H
  exact j_throw (E := "java/lang/IndexOutOfBoundsException") ⟨117, 119, by decide, (dk dt_X11_insert 21 rfl), (dk dt_X11_insert 22 rfl), (dk dt_X11_insert 23 rfl), (dk dt_X11_insert 24 rfl)⟩ hc_ hs_ (Nat.le_of_ble_eq_true rfl) ⟨0, _, rfl, rfl, hw, H⟩
def F_X11_insert  (t0 : Nat) (x1 : Int) (x2 : Int) (z : Z) (c : Nat) (s : Nat) (P : Int → Z → Prop) (X : Nat → Z → Prop) : Prop :=
  F_X11_isAxis x1 (fun x_1 => (if x_1 = 0 then (1 ≤ c ∧ 6 ≤ s ∧ X 1 z) else (zK z t0 = 12 ∧ (∃ a_20, zO z t0 11 = some a_20 ∧ zK z a_20 = 7 ∧ F_X6_line a_20 x1 z (fun x_20 => (if x2 < 1 then F_X11_insert_37 z c s P X else (∃ a_31, x_20 = some a_31 ∧ zK z a_31 = 15 ∧ (if x2 ≤ w32 (zN z a_31 + 1) then F_X11_mostOf x1 (fun x_48 => (if zN z a_31 < x_48 then F_X11_newcomer t0 x1 z (fun x_66 z_66 => (∃ c_69 s_69, c_69 ≤ c ∧ s_69 ≤ s ∧ F_X11_with x_20 x2 x_66 z_66 c_69 s_69 (fun x_69 z_69 => (zK z_69 t0 = 12 ∧ (∃ a_82, zO z_69 t0 11 = some a_82 ∧ zK z_69 a_82 = 7 ∧ (∃ c_82 s_82, c_82 ≤ c - c_69 ∧ s_82 ≤ s - s_69 ∧ F_X6_shapedAlong a_82 x1 x_69 z_69 c_82 s_82 (fun x_82 z_82 => (zK z_82 t0 = 12 ∧ F_X11_step t0 x_82 z_82 (fun z_85 => (∃ a_90, x_69 = some a_90 ∧ zK z_85 a_90 = 15 ∧ P (zN z_85 a_90) z_85)))))))))) else (1 ≤ c ∧ 6 ≤ s ∧ X 3 z))) else F_X11_insert_37 z c s P X))))))))
theorem T_X11_insert  {t0 : Nat} {x1 : Int} {x2 : Int} {z : Z} {c : Nat} {s : Nat} {P : Int → Z → Prop} {X : Nat → Z → Prop} (r_x1 : R32 x1) (r_x2 : R32 x2) (hw : Wz z)  (H : F_X11_insert t0 x1 x2 z c s P X) : ConX mX11_insert 6 c s [vr (some t0), ii (x1), ii (x2)] (cz z) (QX (QZI P) X) := by
  refine con_ofX rfl (Nat.le_of_ble_eq_true rfl) (by decide) (by decide) ?_
  show J mX11_insert 6 c s _ 0 [some (vr (some t0)), some (ii (x1)), some (ii (x2)), none, none] [] (cz z)
  unfold F_X11_insert at H
  refine j_iload_n (dk dt_X11_insert 0 rfl) rfl ?_
  refine j_callS1 (dk dt_X11_insert 1 rfl) sl_X11_156 (T_X11_isAxis r_x1 H) rfl (by decide) (Nat.zero_le _) (Nat.zero_le _) (Nat.le_of_ble_eq_true rfl) (fun v_1 h_1 P_1 => ?_)
  obtain ⟨x_1, rfl, r_1, rfl, H⟩ := P_1
  dsimp only [rs]
  refine jz_if_ne 15 (dk dt_X11_insert 2 rfl) (by decide) r_1 H (fun H => ?_) (fun H => ?_)
  · obtain ⟨hc_, hs_, H⟩ := H
    exact j_throw (E := "java/lang/IllegalArgumentException") ⟨127, 129, by decide, (dk dt_X11_insert 3 rfl), (dk dt_X11_insert 4 rfl), (dk dt_X11_insert 5 rfl), (dk dt_X11_insert 6 rfl)⟩ hc_ hs_ (Nat.le_of_ble_eq_true rfl) ⟨1, _, rfl, rfl, hw, H⟩
  · refine j_aload_n (dk dt_X11_insert 7 rfl) rfl ?_
    obtain ⟨k_16, H⟩ := H
    refine jz_getO (kz := 11) (dk dt_X11_insert 8 rfl) fl_X11_104 rfl rfl rfl k_16 ?_
    refine j_iload_n (dk dt_X11_insert 9 rfl) rfl ?_
    obtain ⟨a_20, e_20, k_20, H⟩ := H
    refine jz_callV1 (dk dt_X11_insert 10 rfl) vl_X11_160 e_20 (T_X6_line r_x1 hw H) k_20 rfl (by decide) (Nat.zero_le _) (Nat.zero_le _) (Nat.le_of_ble_eq_true rfl) (fun v_20 h_20 P_20 => ?_)
    obtain ⟨x_20, rfl, rfl, H⟩ := P_20
    dsimp only [rs]
    refine j_astore_n (dk dt_X11_insert 11 rfl) (by decide) ?_
    refine j_iload_n (dk dt_X11_insert 12 rfl) rfl ?_
    refine j_iconst (v := Int32.ofInt 1) (dk dt_X11_insert 13 rfl) (by decide) ?_
    refine jz_icmp_lt 37 (dk dt_X11_insert 14 rfl) (by decide) r_x2 (by decide) H (fun H => ?_) (fun H => ?_)
    · exact j_el (T_X11_insert_37  hw   H) trivial
    · refine j_iload_n (dk dt_X11_insert 15 rfl) rfl ?_
      refine j_aload_n (dk dt_X11_insert 16 rfl) rfl ?_
      obtain ⟨a_31, e_31, k_31, H⟩ := H
      refine jz_alen (t := 1) (dk dt_X11_insert 17 rfl) e_31 k_31 (by decide) hw ?_
      refine j_iconst (v := Int32.ofInt 1) (dk dt_X11_insert 18 rfl) (by decide) ?_
      refine jz_iadd (dk dt_X11_insert 19 rfl) ?_
      refine jz_icmp_le 45 (dk dt_X11_insert 20 rfl) (by decide) r_x2 (r32_w _) H (fun H => ?_) (fun H => ?_)
      · refine j_aload_n (dk dt_X11_insert 25 rfl) rfl ?_
        refine jz_alen (t := 1) (dk dt_X11_insert 26 rfl) e_31 k_31 (by decide) hw ?_
        refine j_iload_n (dk dt_X11_insert 27 rfl) rfl ?_
        refine j_callS1 (dk dt_X11_insert 28 rfl) sl_X11_163 (T_X11_mostOf r_x1 H) rfl (by decide) (Nat.zero_le _) (Nat.zero_le _) (Nat.le_of_ble_eq_true rfl) (fun v_48 h_48 P_48 => ?_)
        obtain ⟨x_48, rfl, r_48, rfl, H⟩ := P_48
        dsimp only [rs]
        refine jz_icmp_lt 62 (dk dt_X11_insert 29 rfl) (by decide) (r32_len hw _) r_48 H (fun H => ?_) (fun H => ?_)
        · refine j_aload_n (dk dt_X11_insert 34 rfl) rfl ?_
          refine j_iload_n (dk dt_X11_insert 35 rfl) rfl ?_
          refine j_aload_n (dk dt_X11_insert 36 rfl) rfl ?_
          refine j_iload_n (dk dt_X11_insert 37 rfl) rfl ?_
          refine jz_callV1 (dk dt_X11_insert 38 rfl) vl_X11_170 rfl (T_X11_newcomer r_x1 hw H) k_16 rfl (by decide) (Nat.zero_le _) (Nat.zero_le _) (Nat.le_of_ble_eq_true rfl) (fun v_66 h_66 P_66 => ?_)
          obtain ⟨x_66, z_66, rfl, r_66, rfl, w_66, H⟩ := P_66
          dsimp only [rs]
          obtain ⟨c_69, s_69, hc_69, hs_69, H⟩ := H
          refine j_callS3 (dk dt_X11_insert 39 rfl) sl_X11_173 (T_X11_with r_x2 r_66 w_66 H) rfl (by decide) hc_69 hs_69 (Nat.le_of_ble_eq_true rfl) (fun v_69 h_69 P_69 => ?_)
          obtain ⟨x_69, z_69, rfl, rfl, w_69, H⟩ := P_69
          dsimp only [rs]
          refine j_astore (dk dt_X11_insert 40 rfl) (by decide) ?_
          refine j_aload_n (dk dt_X11_insert 41 rfl) rfl ?_
          refine j_aload_n (dk dt_X11_insert 42 rfl) rfl ?_
          obtain ⟨k_76, H⟩ := H
          refine jz_getO (kz := 11) (dk dt_X11_insert 43 rfl) fl_X11_104 rfl rfl rfl k_76 ?_
          refine j_iload_n (dk dt_X11_insert 44 rfl) rfl ?_
          refine j_aload (dk dt_X11_insert 45 rfl) rfl ?_
          obtain ⟨a_82, e_82, k_82, H⟩ := H
          obtain ⟨c_82, s_82, hc_82, hs_82, H⟩ := H
          refine jz_callV2 (dk dt_X11_insert 46 rfl) vl_X11_177 e_82 (T_X6_shapedAlong r_x1 w_69 H) k_82 rfl (by decide) hc_82 hs_82 (Nat.le_of_ble_eq_true rfl) (fun v_82 h_82 P_82 => ?_)
          obtain ⟨x_82, z_82, rfl, rfl, w_82, H⟩ := P_82
          dsimp only [rs]
          obtain ⟨k_85, H⟩ := H
          refine jz_callV1 (dk dt_X11_insert 47 rfl) vl_X11_145 rfl (T_X11_step w_82 H) k_85 rfl (by decide) (Nat.zero_le _) (Nat.zero_le _) (Nat.le_of_ble_eq_true rfl) (fun v_85 h_85 P_85 => ?_)
          obtain ⟨z_85, rfl, rfl, w_85, H⟩ := P_85
          dsimp only [rs]
          refine j_aload (dk dt_X11_insert 48 rfl) rfl ?_
          obtain ⟨a_90, e_90, k_90, H⟩ := H
          refine jz_alen (t := 1) (dk dt_X11_insert 49 rfl) e_90 k_90 (by decide) w_85 ?_
          exact j_ireturn (dk dt_X11_insert 50 rfl) rfl rfl ⟨_, _, rfl, (r32_len w_85 _), rfl, w_85, H⟩
        · obtain ⟨hc_, hs_, H⟩ := H
          exact j_throw (E := "java/lang/IllegalStateException") ⟨167, 169, by decide, (dk dt_X11_insert 30 rfl), (dk dt_X11_insert 31 rfl), (dk dt_X11_insert 32 rfl), (dk dt_X11_insert 33 rfl)⟩ hc_ hs_ (Nat.le_of_ble_eq_true rfl) ⟨3, _, rfl, rfl, hw, H⟩
      · exact j_el (T_X11_insert_37  hw   H) trivial
def F_X11_isCell_27  (s0 : Int) (z : Z) (P : Int → Prop) : Prop :=
  (Z1 s0 ∧ P s0)
theorem T_X11_isCell_27  {s0 : Int} {z : Z} {P : Int → Prop} (r_s0 : R32 s0) (hw : Wz z)   (H : F_X11_isCell_27 s0 z P) : J mX11_isCell 3 0 0 (nx (QPI (cz z) P)) 27 [none, none, none, none, none] [ii (s0)] (cz z) := by
  unfold F_X11_isCell_27 at H
  obtain ⟨hz_, H⟩ := H
  exact j_ireturn (dk dt_X11_isCell 14 rfl) rfl (nar_z hz_) ⟨_, rfl, r_s0, rfl, H⟩
def F_X11_isCell_26  (z : Z) (P : Int → Prop) : Prop :=
  F_X11_isCell_27 0 z P
theorem T_X11_isCell_26  {z : Z} {P : Int → Prop}  (hw : Wz z)   (H : F_X11_isCell_26 z P) : J mX11_isCell 3 0 0 (nx (QPI (cz z) P)) 26 [none, none, none, none, none] [] (cz z) := by
  unfold F_X11_isCell_26 at H
  refine j_iconst (v := Int32.ofInt 0) (dk dt_X11_isCell 13 rfl) (by decide) ?_
  exact j_el (T_X11_isCell_27 (by decide) hw   H) trivial
def F_X11_isCell  (t0 : Nat) (x1 : Int) (x2 : Int) (x3 : Int) (z : Z) (P : Int → Prop) : Prop :=
  (zK z t0 = 12 ∧ F_X11_sheetOf t0 x1 z (fun x_2 => (if x_2 = none then F_X11_isCell_26 z P else (∃ a_16, x_2 = some a_16 ∧ zK z a_16 = 7 ∧ F_X6_has a_16 x2 x3 z (fun x_16 => (if x_16 = 0 then F_X11_isCell_26 z P else F_X11_isCell_27 1 z P))))))
theorem T_X11_isCell  {t0 : Nat} {x1 : Int} {x2 : Int} {x3 : Int} {z : Z} {P : Int → Prop} (r_x1 : R32 x1) (r_x2 : R32 x2) (r_x3 : R32 x3) (hw : Wz z)  (H : F_X11_isCell t0 x1 x2 x3 z P) : Con mX11_isCell 3 0 0 [vr (some t0), ii (x1), ii (x2), ii (x3)] (cz z) (QPI (cz z) P) := by
  refine con_of rfl (Nat.le_of_ble_eq_true rfl) (by decide) ?_
  show J mX11_isCell 3 0 0 _ 0 [some (vr (some t0)), some (ii (x1)), some (ii (x2)), some (ii (x3)), none] [] (cz z)
  unfold F_X11_isCell at H
  refine j_aload_n (dk dt_X11_isCell 0 rfl) rfl ?_
  refine j_iload_n (dk dt_X11_isCell 1 rfl) rfl ?_
  obtain ⟨k_2, H⟩ := H
  refine jz_callV1 (dk dt_X11_isCell 2 rfl) vl_X11_312 rfl (T_X11_sheetOf r_x1 hw H) k_2 rfl (by decide) (Nat.zero_le _) (Nat.zero_le _) (Nat.le_of_ble_eq_true rfl) (fun v_2 h_2 P_2 => ?_)
  obtain ⟨x_2, rfl, rfl, H⟩ := P_2
  dsimp only [rs]
  refine j_astore (dk dt_X11_isCell 3 rfl) (by decide) ?_
  refine j_aload (dk dt_X11_isCell 4 rfl) rfl ?_
  refine jz_ifnull 26 (dk dt_X11_isCell 5 rfl) (by decide) H (fun H => ?_) (fun H => ?_)
  · exact j_el (T_X11_isCell_26  hw   H) trivial
  · refine j_aload (dk dt_X11_isCell 6 rfl) rfl ?_
    refine j_iload_n (dk dt_X11_isCell 7 rfl) rfl ?_
    refine j_iload_n (dk dt_X11_isCell 8 rfl) rfl ?_
    obtain ⟨a_16, e_16, k_16, H⟩ := H
    refine jz_callV2 (dk dt_X11_isCell 9 rfl) vl_X11_113 e_16 (T_X6_has r_x2 r_x3 hw H) k_16 rfl (by decide) (Nat.zero_le _) (Nat.zero_le _) (Nat.le_of_ble_eq_true rfl) (fun v_16 h_16 P_16 => ?_)
    obtain ⟨x_16, rfl, r_16, rfl, H⟩ := P_16
    dsimp only [rs]
    refine jz_if_eq 26 (dk dt_X11_isCell 10 rfl) (by decide) r_16 H (fun H => ?_) (fun H => ?_)
    · exact j_el (T_X11_isCell_26  hw   H) trivial
    · refine j_iconst (v := Int32.ofInt 1) (dk dt_X11_isCell 11 rfl) (by decide) ?_
      refine j_goto 27 (dk dt_X11_isCell 12 rfl) (by decide) ?_
      exact j_el (T_X11_isCell_27 (by decide) hw   H) trivial
def F_X6_versionsLookedAt_65  (t0 : Nat) (x3 : Int) (x4 : Int) (s0 : Int) (s1 : Int) (z : Z) (P : (Int × Int) ⊕ ((Int)) → Prop) : Prop :=
  P (.inl (lOr s0 s1, w32 (x4 + 1)))
theorem T_X6_versionsLookedAt_65  {t0 : Nat} {x3 : Int} {x4 : Int} {s0 : Int} {s1 : Int} {z : Z} {P : (Int × Int) ⊕ ((Int)) → Prop} {post : Option Sv ⊕ String → Hp → Prop} (r_x3 : R32 x3) (r_x4 : R32 x4) (r_s0 : R64 s0) (r_s1 : R64 s1) (hw : Wz z)  (hl : ∀ (x1 : Int) (x4 : Int), P (.inl (x1, x4)) → R64 x1 → R32 x4 → J mX6_versionsLookedAt 2 0 0 post 16 [some (vr (some t0)), some (ll (x1)), none, some (ii (x3)), some (ii (x4)), none] [] (cz z)) (he0 : ∀ (x1 : Int), P (.inr x1) → R64 x1 → J mX6_versionsLookedAt 2 0 0 post 73 [some (vr (some t0)), some (ll (x1)), none, some (ii (x3)), none, none] [] (cz z)) (H : F_X6_versionsLookedAt_65 t0 x3 x4 s0 s1 z P) : J mX6_versionsLookedAt 2 0 0 (post) 65 [some (vr (some t0)), none, none, some (ii (x3)), some (ii (x4)), none] [ll (s1), ll (s0)] (cz z) := by
  unfold F_X6_versionsLookedAt_65 at H
  refine jz_lor (dk dt_X6_versionsLookedAt 37 rfl) ?_
  refine j_lstore_n (dk dt_X6_versionsLookedAt 38 rfl) (by decide) ?_
  refine jz_iinc (dk dt_X6_versionsLookedAt 39 rfl) rfl ?_
  refine j_goto 16 (dk dt_X6_versionsLookedAt 40 rfl) (by decide) ?_
  exact j_el (hl _ _ H (r64_t _) (r32_w _)) (And.intro rfl (And.intro rfl (And.intro rfl (And.intro rfl trivial))))
def L_X6_versionsLookedAt_16  (t0 : Nat) (x1 : Int) (x3 : Int) (x4 : Int) (z : Z) (P : (Int × Int) ⊕ ((Int)) → Prop) : Prop :=
  (zK z t0 = 7 ∧ (∃ a_23, zO z t0 2 = some a_23 ∧ zK z a_23 = 19 ∧ (0 ≤ x3 ∧ x3 < zN z a_23 ∧ F_X11_partsOf (zO z a_23 x3) z (fun x_24 => (if x_24 ≤ x4 then P (.inr x1) else (∃ a_36, zO z a_23 x3 = some a_36 ∧ zK z a_36 = 2 ∧ (∃ a_41, zO z a_36 2 = some a_41 ∧ zK z a_41 = 20 ∧ (0 ≤ x4 ∧ x4 < zN z a_41 ∧ (∃ a_47, zO z a_41 x4 = some a_47 ∧ zK z a_47 = 5 ∧ (if zI z a_47 8 = (-1) then F_X6_versionsLookedAt_65 t0 x3 x4 x1 0 z P else F_X6_versionsLookedAt_65 t0 x3 x4 x1 (lShl 1 (zI z a_47 8)) z P))))))))))
theorem U_X6_versionsLookedAt_16  {t0 : Nat} {x1 : Int} {x3 : Int} {x4 : Int} {z : Z} {P : (Int × Int) ⊕ ((Int)) → Prop} {post : Option Sv ⊕ String → Hp → Prop} (r_x1 : R64 x1) (r_x3 : R32 x3) (r_x4 : R32 x4) (hw : Wz z)  (hl : ∀ (x1 : Int) (x4 : Int), P (.inl (x1, x4)) → R64 x1 → R32 x4 → J mX6_versionsLookedAt 2 0 0 post 16 [some (vr (some t0)), some (ll (x1)), none, some (ii (x3)), some (ii (x4)), none] [] (cz z)) (he0 : ∀ (x1 : Int), P (.inr x1) → R64 x1 → J mX6_versionsLookedAt 2 0 0 post 73 [some (vr (some t0)), some (ll (x1)), none, some (ii (x3)), none, none] [] (cz z)) (H : L_X6_versionsLookedAt_16 t0 x1 x3 x4 z P) : J mX6_versionsLookedAt 2 0 0 post 16 [some (vr (some t0)), some (ll (x1)), none, some (ii (x3)), some (ii (x4)), none] [] (cz z) := by
  unfold L_X6_versionsLookedAt_16 at H
  refine j_iload (dk dt_X6_versionsLookedAt 11 rfl) rfl ?_
  refine j_aload_n (dk dt_X6_versionsLookedAt 12 rfl) rfl ?_
  obtain ⟨k_19, H⟩ := H
  refine jz_getO (kz := 2) (dk dt_X6_versionsLookedAt 13 rfl) fl_X6_20 rfl rfl rfl k_19 ?_
  refine j_iload_n (dk dt_X6_versionsLookedAt 14 rfl) rfl ?_
  obtain ⟨a_23, e_23, k_23, H⟩ := H
  obtain ⟨p_23, q_23, H⟩ := H
  refine jz_aald (t := 5) (dk dt_X6_versionsLookedAt 15 rfl) e_23 k_23 (by decide) (by decide) p_23 q_23 hw ?_
  refine j_callSN1 (dk dt_X6_versionsLookedAt 16 rfl) snl_X6_51 (T_X11_partsOf hw H) rfl (by decide) (Nat.zero_le _) (Nat.zero_le _) (Nat.le_of_ble_eq_true rfl) (fun v_24 h_24 P_24 => ?_)
  obtain ⟨x_24, rfl, r_24, rfl, H⟩ := P_24
  dsimp only [rs]
  refine jz_icmp_ge 73 (dk dt_X6_versionsLookedAt 17 rfl) (by decide) r_x4 r_24 H (fun H => ?_) (fun H => ?_)
  · exact j_el (he0 _ H r_x1) (And.intro rfl (And.intro rfl (And.intro rfl trivial)))
  · refine j_aload_n (dk dt_X6_versionsLookedAt 18 rfl) rfl ?_
    refine jz_getO (kz := 2) (dk dt_X6_versionsLookedAt 19 rfl) fl_X6_20 rfl rfl rfl k_19 ?_
    refine j_iload_n (dk dt_X6_versionsLookedAt 20 rfl) rfl ?_
    refine jz_aald (t := 5) (dk dt_X6_versionsLookedAt 21 rfl) e_23 k_23 (by decide) (by decide) p_23 q_23 hw ?_
    obtain ⟨a_36, e_36, k_36, H⟩ := H
    refine jz_getO (kz := 2) (dk dt_X6_versionsLookedAt 22 rfl) fl_X6_55 rfl rfl e_36 k_36 ?_
    refine j_iload (dk dt_X6_versionsLookedAt 23 rfl) rfl ?_
    obtain ⟨a_41, e_41, k_41, H⟩ := H
    obtain ⟨p_41, q_41, H⟩ := H
    refine jz_aald (t := 6) (dk dt_X6_versionsLookedAt 24 rfl) e_41 k_41 (by decide) (by decide) p_41 q_41 hw ?_
    refine j_astore (dk dt_X6_versionsLookedAt 25 rfl) (by decide) ?_
    refine j_lload_n (dk dt_X6_versionsLookedAt 26 rfl) rfl ?_
    refine j_aload (dk dt_X6_versionsLookedAt 27 rfl) rfl ?_
    obtain ⟨a_47, e_47, k_47, H⟩ := H
    refine jz_getI (kz := 8) (dk dt_X6_versionsLookedAt 28 rfl) fl_X6_59 rfl rfl e_47 k_47 ?_
    refine j_iconst (v := Int32.ofInt (-1)) (dk dt_X6_versionsLookedAt 29 rfl) (by decide) ?_
    refine jz_icmp_eq 64 (dk dt_X6_versionsLookedAt 30 rfl) (by decide) (hw.1 _ _) (by decide) H (fun H => ?_) (fun H => ?_)
    · refine j_lconst (v := Int64.ofInt 0) (dk dt_X6_versionsLookedAt 36 rfl) (by decide) ?_
      exact j_el (T_X6_versionsLookedAt_65 r_x3 r_x4 r_x1 (by decide) hw  hl he0 H) (And.intro rfl (And.intro rfl (And.intro rfl trivial)))
    · refine j_lconst (v := Int64.ofInt 1) (dk dt_X6_versionsLookedAt 31 rfl) (by decide) ?_
      refine j_aload (dk dt_X6_versionsLookedAt 32 rfl) rfl ?_
      refine jz_getI (kz := 8) (dk dt_X6_versionsLookedAt 33 rfl) fl_X6_59 rfl rfl e_47 k_47 ?_
      refine jz_lshl (dk dt_X6_versionsLookedAt 34 rfl) ?_
      refine j_goto 65 (dk dt_X6_versionsLookedAt 35 rfl) (by decide) ?_
      exact j_el (T_X6_versionsLookedAt_65 r_x3 r_x4 r_x1 (r64_t _) hw  hl he0 H) (And.intro rfl (And.intro rfl (And.intro rfl trivial)))
def F_X6_versionsLookedAt_16  (t0 : Nat) (x1 : Int) (x3 : Int) (x4 : Int) (z : Z) (P : (Int × Int) ⊕ ((Int)) → Prop) : Prop :=
  lp (S := Int × Int) (E := (Int)) (fun q P_ => L_X6_versionsLookedAt_16 t0 q.1 x3 q.2 z P_) (x1, x4) (fun (x1 : Int) => P (.inl (x1, w32 (x3 + 1))))
theorem T_X6_versionsLookedAt_16  {t0 : Nat} {x1 : Int} {x3 : Int} {x4 : Int} {z : Z} {P : (Int × Int) ⊕ ((Int)) → Prop} {post : Option Sv ⊕ String → Hp → Prop} (r_x1 : R64 x1) (r_x3 : R32 x3) (r_x4 : R32 x4) (hw : Wz z)  (hl : ∀ (x1 : Int) (x3 : Int), P (.inl (x1, x3)) → R64 x1 → R32 x3 → J mX6_versionsLookedAt 2 0 0 post 4 [some (vr (some t0)), some (ll (x1)), none, some (ii (x3)), none, none] [] (cz z)) (he0 : ∀ (x1 : Int), P (.inr x1) → R64 x1 → J mX6_versionsLookedAt 2 0 0 post 79 [none, some (ll (x1)), none, none, none, none] [] (cz z)) (H : F_X6_versionsLookedAt_16 t0 x1 x3 x4 z P) : J mX6_versionsLookedAt 2 0 0 (post) 16 [some (vr (some t0)), some (ll (x1)), none, some (ii (x3)), some (ii (x4)), none] [] (cz z) := by
  unfold F_X6_versionsLookedAt_16 at H
  refine lp_J (G := fun q => R64 (q.1) → R32 (q.2) → J mX6_versionsLookedAt 2 0 0 (post) 16 [some (vr (some t0)), some (ll ((q.1))), none, some (ii (x3)), some (ii ((q.2))), none] [] (cz z)) (fun q P_ hl_ he_ Hb => ?_) (x1, x4) H r_x1 r_x4
  obtain ⟨x1, x4⟩ := q
  intro r_x1 r_x4
  refine U_X6_versionsLookedAt_16 (P := P_) r_x1 r_x3 r_x4 hw  (fun x1 x4 Hp r_x1 r_x4 => hl_ (x1, x4) Hp r_x1 r_x4) ?_ Hb
  · intro x1 Hp r_x1
    have H := he_ _ Hp
    refine jz_iinc (dk dt_X6_versionsLookedAt 41 rfl) rfl ?_
    refine j_goto 4 (dk dt_X6_versionsLookedAt 42 rfl) (by decide) ?_
    exact j_el (hl _ _ H r_x1 (r32_w _)) (And.intro rfl (And.intro rfl (And.intro rfl trivial)))
def L_X6_versionsLookedAt_4  (t0 : Nat) (x1 : Int) (x3 : Int) (z : Z) (P : (Int × Int) ⊕ ((Int)) → Prop) : Prop :=
  (zK z t0 = 7 ∧ (∃ a_9, zO z t0 2 = some a_9 ∧ zK z a_9 = 19 ∧ (if zN z a_9 ≤ x3 then P (.inr x1) else F_X6_versionsLookedAt_16 t0 x1 x3 0 z P)))
theorem U_X6_versionsLookedAt_4  {t0 : Nat} {x1 : Int} {x3 : Int} {z : Z} {P : (Int × Int) ⊕ ((Int)) → Prop} {post : Option Sv ⊕ String → Hp → Prop} (r_x1 : R64 x1) (r_x3 : R32 x3) (hw : Wz z)  (hl : ∀ (x1 : Int) (x3 : Int), P (.inl (x1, x3)) → R64 x1 → R32 x3 → J mX6_versionsLookedAt 2 0 0 post 4 [some (vr (some t0)), some (ll (x1)), none, some (ii (x3)), none, none] [] (cz z)) (he0 : ∀ (x1 : Int), P (.inr x1) → R64 x1 → J mX6_versionsLookedAt 2 0 0 post 79 [none, some (ll (x1)), none, none, none, none] [] (cz z)) (H : L_X6_versionsLookedAt_4 t0 x1 x3 z P) : J mX6_versionsLookedAt 2 0 0 post 4 [some (vr (some t0)), some (ll (x1)), none, some (ii (x3)), none, none] [] (cz z) := by
  unfold L_X6_versionsLookedAt_4 at H
  refine j_iload_n (dk dt_X6_versionsLookedAt 4 rfl) rfl ?_
  refine j_aload_n (dk dt_X6_versionsLookedAt 5 rfl) rfl ?_
  obtain ⟨k_6, H⟩ := H
  refine jz_getO (kz := 2) (dk dt_X6_versionsLookedAt 6 rfl) fl_X6_20 rfl rfl rfl k_6 ?_
  obtain ⟨a_9, e_9, k_9, H⟩ := H
  refine jz_alen (t := 5) (dk dt_X6_versionsLookedAt 7 rfl) e_9 k_9 (by decide) hw ?_
  refine jz_icmp_ge 79 (dk dt_X6_versionsLookedAt 8 rfl) (by decide) r_x3 (r32_len hw _) H (fun H => ?_) (fun H => ?_)
  · exact j_el (he0 _ H r_x1) (And.intro rfl trivial)
  · refine j_iconst (v := Int32.ofInt 0) (dk dt_X6_versionsLookedAt 9 rfl) (by decide) ?_
    refine j_istore (dk dt_X6_versionsLookedAt 10 rfl) (by decide) ?_
    exact j_el (T_X6_versionsLookedAt_16 r_x1 r_x3 (by decide) hw  hl he0 H) (And.intro rfl (And.intro rfl (And.intro rfl (And.intro rfl trivial))))
def F_X6_versionsLookedAt_4  (t0 : Nat) (x1 : Int) (x3 : Int) (z : Z) (P : Int → Prop) : Prop :=
  lp (S := Int × Int) (E := (Int)) (fun q P_ => L_X6_versionsLookedAt_4 t0 q.1 q.2 z P_) (x1, x3) (fun (x1 : Int) => P x1)
theorem T_X6_versionsLookedAt_4  {t0 : Nat} {x1 : Int} {x3 : Int} {z : Z} {P : Int → Prop} (r_x1 : R64 x1) (r_x3 : R32 x3) (hw : Wz z)   (H : F_X6_versionsLookedAt_4 t0 x1 x3 z P) : J mX6_versionsLookedAt 2 0 0 (nx (QPJ (cz z) P)) 4 [some (vr (some t0)), some (ll (x1)), none, some (ii (x3)), none, none] [] (cz z) := by
  unfold F_X6_versionsLookedAt_4 at H
  refine lp_J (G := fun q => R64 (q.1) → R32 (q.2) → J mX6_versionsLookedAt 2 0 0 (nx (QPJ (cz z) P)) 4 [some (vr (some t0)), some (ll ((q.1))), none, some (ii ((q.2))), none, none] [] (cz z)) (fun q P_ hl_ he_ Hb => ?_) (x1, x3) H r_x1 r_x3
  obtain ⟨x1, x3⟩ := q
  intro r_x1 r_x3
  refine U_X6_versionsLookedAt_4 (P := P_) r_x1 r_x3 hw  (fun x1 x3 Hp r_x1 r_x3 => hl_ (x1, x3) Hp r_x1 r_x3) ?_ Hb
  · intro x1 Hp r_x1
    have H := he_ _ Hp
    refine j_lload_n (dk dt_X6_versionsLookedAt 43 rfl) rfl ?_
    exact j_lreturn (dk dt_X6_versionsLookedAt 44 rfl) rfl ⟨_, rfl, r_x1, rfl, H⟩
def F_X6_versionsLookedAt  (t0 : Nat) (z : Z) (P : Int → Prop) : Prop :=
  F_X6_versionsLookedAt_4 t0 0 0 z P
theorem T_X6_versionsLookedAt  {t0 : Nat} {z : Z} {P : Int → Prop}  (hw : Wz z)  (H : F_X6_versionsLookedAt t0 z P) : Con mX6_versionsLookedAt 2 0 0 [vr (some t0)] (cz z) (QPJ (cz z) P) := by
  refine con_of rfl (Nat.le_of_ble_eq_true rfl) (by decide) ?_
  show J mX6_versionsLookedAt 2 0 0 _ 0 [some (vr (some t0)), none, none, none, none, none] [] (cz z)
  unfold F_X6_versionsLookedAt at H
  refine j_lconst (v := Int64.ofInt 0) (dk dt_X6_versionsLookedAt 0 rfl) (by decide) ?_
  refine j_lstore_n (dk dt_X6_versionsLookedAt 1 rfl) (by decide) ?_
  refine j_iconst (v := Int32.ofInt 0) (dk dt_X6_versionsLookedAt 2 rfl) (by decide) ?_
  refine j_istore_n (dk dt_X6_versionsLookedAt 3 rfl) (by decide) ?_
  exact j_el (T_X6_versionsLookedAt_4 (by decide) (by decide) hw   H) (And.intro rfl (And.intro rfl (And.intro rfl trivial)))
def L_X9_clear_2  (x0 : Option Nat) (x1 : Int) (x2 : Int) (z : Z) (P : (Int × Z) ⊕ ((Z)) → Prop) : Prop :=
  (if w32 (x1 + 5) ≤ x2 then P (.inr z) else (∃ a_11, x0 = some a_11 ∧ zK z a_11 = 16 ∧ (if zN z a_11 ≤ x2 then P (.inr z) else (0 ≤ x2 ∧ x2 < zN z a_11 ∧ (∀ z_18, z_18 = wG z a_11 x2 0 → P (.inl (w32 (x2 + 1), z_18)))))))
theorem U_X9_clear_2  {x0 : Option Nat} {x1 : Int} {x2 : Int} {z : Z} {P : (Int × Z) ⊕ ((Z)) → Prop} {post : Option Sv ⊕ String → Hp → Prop} (r_x1 : R32 x1) (r_x2 : R32 x2) (hw : Wz z)  (hl : ∀ (x2 : Int) (z : Z), P (.inl (x2, z)) → Wz z → R32 x2 → J mX9_clear 1 0 0 post 2 [some (vr (x0)), some (ii (x1)), some (ii (x2))] [] (cz z)) (he0 : ∀ (z : Z), P (.inr z) → Wz z → J mX9_clear 1 0 0 post 25 [none, none, none] [] (cz z)) (H : L_X9_clear_2 x0 x1 x2 z P) : J mX9_clear 1 0 0 post 2 [some (vr (x0)), some (ii (x1)), some (ii (x2))] [] (cz z) := by
  unfold L_X9_clear_2 at H
  refine j_iload_n (dk dt_X9_clear 2 rfl) rfl ?_
  refine j_iload_n (dk dt_X9_clear 3 rfl) rfl ?_
  refine j_iconst (v := Int32.ofInt 5) (dk dt_X9_clear 4 rfl) (by decide) ?_
  refine jz_iadd (dk dt_X9_clear 5 rfl) ?_
  refine jz_icmp_ge 25 (dk dt_X9_clear 6 rfl) (by decide) r_x2 (r32_w _) H (fun H => ?_) (fun H => ?_)
  · exact j_el (he0 _ H hw) trivial
  · refine j_iload_n (dk dt_X9_clear 7 rfl) rfl ?_
    refine j_aload_n (dk dt_X9_clear 8 rfl) rfl ?_
    obtain ⟨a_11, e_11, k_11, H⟩ := H
    refine jz_alen (t := 2) (dk dt_X9_clear 9 rfl) e_11 k_11 (by decide) hw ?_
    refine jz_icmp_ge 25 (dk dt_X9_clear 10 rfl) (by decide) r_x2 (r32_len hw _) H (fun H => ?_) (fun H => ?_)
    · exact j_el (he0 _ H hw) trivial
    · refine j_aload_n (dk dt_X9_clear 11 rfl) rfl ?_
      refine j_iload_n (dk dt_X9_clear 12 rfl) rfl ?_
      refine j_lconst (v := Int64.ofInt 0) (dk dt_X9_clear 13 rfl) (by decide) ?_
      obtain ⟨p_18, q_18, H⟩ := H
      refine jz_last (dk dt_X9_clear 14 rfl) e_11 k_11 p_18 q_18 hw (by decide) (fun w_18 => ?_)
      replace H := H _ rfl
      refine jz_iinc (dk dt_X9_clear 15 rfl) rfl ?_
      refine j_goto 2 (dk dt_X9_clear 16 rfl) (by decide) ?_
      exact j_el (hl _ _ H w_18 (r32_w _)) (And.intro rfl (And.intro rfl (And.intro rfl trivial)))
def F_X9_clear_25  (z : Z) (P : Z → Prop) : Prop :=
  P z
theorem T_X9_clear_25  {z : Z} {P : Z → Prop}  (hw : Wz z)   (H : F_X9_clear_25 z P) : J mX9_clear 1 0 0 (nx (QZV P)) 25 [none, none, none] [] (cz z) := by
  unfold F_X9_clear_25 at H
  exact j_return (dk dt_X9_clear 17 rfl) rfl ⟨_, rfl, rfl, hw, H⟩
def F_X9_clear_2  (x0 : Option Nat) (x1 : Int) (x2 : Int) (z : Z) (P : Z → Prop) : Prop :=
  lp (S := Int × Z) (E := (Z)) (fun q P_ => L_X9_clear_2 x0 x1 q.1 q.2 P_) (x2, z) (fun (z : Z) => F_X9_clear_25 z P)
theorem T_X9_clear_2  {x0 : Option Nat} {x1 : Int} {x2 : Int} {z : Z} {P : Z → Prop} (r_x1 : R32 x1) (r_x2 : R32 x2) (hw : Wz z)   (H : F_X9_clear_2 x0 x1 x2 z P) : J mX9_clear 1 0 0 (nx (QZV P)) 2 [some (vr (x0)), some (ii (x1)), some (ii (x2))] [] (cz z) := by
  unfold F_X9_clear_2 at H
  refine lp_J (G := fun q => Wz (q.2) → R32 (q.1) → J mX9_clear 1 0 0 (nx (QZV P)) 2 [some (vr (x0)), some (ii (x1)), some (ii ((q.1)))] [] (cz (q.2))) (fun q P_ hl_ he_ Hb => ?_) (x2, z) H hw r_x2
  obtain ⟨x2, z⟩ := q
  intro hw r_x2
  refine U_X9_clear_2 (P := P_) r_x1 r_x2 hw  (fun x2 z Hp hw r_x2 => hl_ (x2, z) Hp hw r_x2) ?_ Hb
  · intro z Hp hw
    have H := he_ _ Hp
    exact j_el (T_X9_clear_25  hw   H) trivial
def F_X9_clear  (x0 : Option Nat) (x1 : Int) (z : Z) (P : Z → Prop) : Prop :=
  F_X9_clear_2 x0 x1 x1 z P
theorem T_X9_clear  {x0 : Option Nat} {x1 : Int} {z : Z} {P : Z → Prop} (r_x1 : R32 x1) (hw : Wz z)  (H : F_X9_clear x0 x1 z P) : Con mX9_clear 1 0 0 [vr (x0), ii (x1)] (cz z) (QZV P) := by
  refine con_of rfl (Nat.le_of_ble_eq_true rfl) (by decide) ?_
  show J mX9_clear 1 0 0 _ 0 [some (vr (x0)), some (ii (x1)), none] [] (cz z)
  unfold F_X9_clear at H
  refine j_iload_n (dk dt_X9_clear 0 rfl) rfl ?_
  refine j_istore_n (dk dt_X9_clear 1 rfl) (by decide) ?_
  exact j_el (T_X9_clear_2 r_x1 r_x1 hw   H) (And.intro rfl (And.intro rfl (And.intro rfl trivial)))
def F_X9_finds_174  (s0 : Int) (z : Z) (P : Int → Z → Prop) : Prop :=
  (Z1 s0 ∧ P s0 z)
theorem T_X9_finds_174  {s0 : Int} {z : Z} {P : Int → Z → Prop} (r_s0 : R32 s0) (hw : Wz z)   (H : F_X9_finds_174 s0 z P) : J mX9_finds 4 0 0 (nx (QZI P)) 174 [none, none, none, none, none, none, none] [ii (s0)] (cz z) := by
  unfold F_X9_finds_174 at H
  obtain ⟨hz_, H⟩ := H
  exact j_ireturn (dk dt_X9_finds 87 rfl) rfl (nar_z hz_) ⟨_, _, rfl, r_s0, rfl, hw, H⟩
def F_X9_finds_173  (z : Z) (P : Int → Z → Prop) : Prop :=
  F_X9_finds_174 0 z P
theorem T_X9_finds_173  {z : Z} {P : Int → Z → Prop}  (hw : Wz z)   (H : F_X9_finds_173 z P) : J mX9_finds 4 0 0 (nx (QZI P)) 173 [none, none, none, none, none, none, none] [] (cz z) := by
  unfold F_X9_finds_173 at H
  refine j_iconst (v := Int32.ofInt 0) (dk dt_X9_finds 86 rfl) (by decide) ?_
  exact j_el (T_X9_finds_174 (by decide) hw   H) trivial
def F_X9_finds_46  (t0 : Nat) (x1 : Option Nat) (s0 : Option Nat) (s1 : Option Nat) (z : Z) (P : Int → Z → Prop) : Prop :=
  (∃ a_46, s0 = some a_46 ∧ zK z a_46 = 10 ∧ (∀ z_46, z_46 = wO z a_46 11 s1 → (zK z_46 t0 = 10 ∧ (if zO z_46 t0 11 = none then P 0 z_46 else (∃ a_64, x1 = some a_64 ∧ zK z_46 a_64 = 5 ∧ (∃ a_67, zO z_46 t0 11 = some a_67 ∧ zK z_46 a_67 = 7 ∧ F_X6_placeOf a_67 0 (zI z_46 a_64 3) z_46 (fun x_67 => F_X6_placeOf a_67 0 (zI z_46 a_64 5) z_46 (fun x_80 => F_X6_placeOf a_67 1 (zI z_46 a_64 4) z_46 (fun x_94 => F_X6_placeOf a_67 1 (zI z_46 a_64 6) z_46 (fun x_108 => (∀ z_120, z_120 = wI z_46 t0 12 (min x_67 x_80) → (∀ z_130, z_130 = wI z_120 t0 13 (max x_67 x_80) → (∀ z_141, z_141 = wI z_130 t0 14 (min x_94 x_108) → (∀ z_152, z_152 = wI z_141 t0 15 (max x_94 x_108) → (if zI z_152 t0 12 ≤ 0 then F_X9_finds_173 z_152 P else (if zI z_152 t0 14 ≤ 0 then F_X9_finds_173 z_152 P else F_X9_finds_174 1 z_152 P))))))))))))))))
theorem T_X9_finds_46  {t0 : Nat} {x1 : Option Nat} {s0 : Option Nat} {s1 : Option Nat} {z : Z} {P : Int → Z → Prop}  (hw : Wz z)   (H : F_X9_finds_46 t0 x1 s0 s1 z P) : J mX9_finds 4 0 0 (nx (QZI P)) 46 [some (vr (some t0)), some (vr (x1)), none, none, none, none, none] [vr (s1), vr (s0)] (cz z) := by
  unfold F_X9_finds_46 at H
  obtain ⟨a_46, e_46, k_46, H⟩ := H
  refine jz_putO (kz := 11) (dk dt_X9_finds 24 rfl) fl_X9_209 rfl rfl e_46 k_46 hw (fun w_46 => ?_)
  replace H := H _ rfl
  refine j_aload_n (dk dt_X9_finds 25 rfl) rfl ?_
  obtain ⟨k_50, H⟩ := H
  refine jz_getO (kz := 11) (dk dt_X9_finds 26 rfl) fl_X9_209 rfl rfl rfl k_50 ?_
  refine jz_ifnonnull 58 (dk dt_X9_finds 27 rfl) (by decide) H (fun H => ?_) (fun H => ?_)
  · refine j_iconst (v := Int32.ofInt 0) (dk dt_X9_finds 28 rfl) (by decide) ?_
    exact j_ireturn (dk dt_X9_finds 29 rfl) rfl (nar_z (by decide)) ⟨_, _, rfl, (by decide), rfl, w_46, H⟩
  · refine j_aload_n (dk dt_X9_finds 30 rfl) rfl ?_
    refine jz_getO (kz := 11) (dk dt_X9_finds 31 rfl) fl_X9_209 rfl rfl rfl k_50 ?_
    refine j_iconst (v := Int32.ofInt 0) (dk dt_X9_finds 32 rfl) (by decide) ?_
    refine j_aload_n (dk dt_X9_finds 33 rfl) rfl ?_
    obtain ⟨a_64, e_64, k_64, H⟩ := H
    refine jz_getI (kz := 3) (dk dt_X9_finds 34 rfl) fl_X9_212 rfl rfl e_64 k_64 ?_
    obtain ⟨a_67, e_67, k_67, H⟩ := H
    refine jz_callV2 (dk dt_X9_finds 35 rfl) vl_X9_215 e_67 (T_X6_placeOf (by decide) (w_46.1 _ _) w_46 H) k_67 rfl (by decide) (Nat.zero_le _) (Nat.zero_le _) (Nat.le_of_ble_eq_true rfl) (fun v_67 h_67 P_67 => ?_)
    obtain ⟨x_67, rfl, r_67, rfl, H⟩ := P_67
    dsimp only [rs]
    refine j_istore_n (dk dt_X9_finds 36 rfl) (by decide) ?_
    refine j_aload_n (dk dt_X9_finds 37 rfl) rfl ?_
    refine jz_getO (kz := 11) (dk dt_X9_finds 38 rfl) fl_X9_209 rfl rfl rfl k_50 ?_
    refine j_iconst (v := Int32.ofInt 0) (dk dt_X9_finds 39 rfl) (by decide) ?_
    refine j_aload_n (dk dt_X9_finds 40 rfl) rfl ?_
    refine jz_getI (kz := 5) (dk dt_X9_finds 41 rfl) fl_X9_218 rfl rfl e_64 k_64 ?_
    refine jz_callV2 (dk dt_X9_finds 42 rfl) vl_X9_215 e_67 (T_X6_placeOf (by decide) (w_46.1 _ _) w_46 H) k_67 rfl (by decide) (Nat.zero_le _) (Nat.zero_le _) (Nat.le_of_ble_eq_true rfl) (fun v_80 h_80 P_80 => ?_)
    obtain ⟨x_80, rfl, r_80, rfl, H⟩ := P_80
    dsimp only [rs]
    refine j_istore (dk dt_X9_finds 43 rfl) (by decide) ?_
    refine j_aload_n (dk dt_X9_finds 44 rfl) rfl ?_
    refine jz_getO (kz := 11) (dk dt_X9_finds 45 rfl) fl_X9_209 rfl rfl rfl k_50 ?_
    refine j_iconst (v := Int32.ofInt 1) (dk dt_X9_finds 46 rfl) (by decide) ?_
    refine j_aload_n (dk dt_X9_finds 47 rfl) rfl ?_
    refine jz_getI (kz := 4) (dk dt_X9_finds 48 rfl) fl_X9_221 rfl rfl e_64 k_64 ?_
    refine jz_callV2 (dk dt_X9_finds 49 rfl) vl_X9_215 e_67 (T_X6_placeOf (by decide) (w_46.1 _ _) w_46 H) k_67 rfl (by decide) (Nat.zero_le _) (Nat.zero_le _) (Nat.le_of_ble_eq_true rfl) (fun v_94 h_94 P_94 => ?_)
    obtain ⟨x_94, rfl, r_94, rfl, H⟩ := P_94
    dsimp only [rs]
    refine j_istore (dk dt_X9_finds 50 rfl) (by decide) ?_
    refine j_aload_n (dk dt_X9_finds 51 rfl) rfl ?_
    refine jz_getO (kz := 11) (dk dt_X9_finds 52 rfl) fl_X9_209 rfl rfl rfl k_50 ?_
    refine j_iconst (v := Int32.ofInt 1) (dk dt_X9_finds 53 rfl) (by decide) ?_
    refine j_aload_n (dk dt_X9_finds 54 rfl) rfl ?_
    refine jz_getI (kz := 6) (dk dt_X9_finds 55 rfl) fl_X9_224 rfl rfl e_64 k_64 ?_
    refine jz_callV2 (dk dt_X9_finds 56 rfl) vl_X9_215 e_67 (T_X6_placeOf (by decide) (w_46.1 _ _) w_46 H) k_67 rfl (by decide) (Nat.zero_le _) (Nat.zero_le _) (Nat.le_of_ble_eq_true rfl) (fun v_108 h_108 P_108 => ?_)
    obtain ⟨x_108, rfl, r_108, rfl, H⟩ := P_108
    dsimp only [rs]
    refine j_istore (dk dt_X9_finds 57 rfl) (by decide) ?_
    refine j_aload_n (dk dt_X9_finds 58 rfl) rfl ?_
    refine j_iload_n (dk dt_X9_finds 59 rfl) rfl ?_
    refine j_iload (dk dt_X9_finds 60 rfl) rfl ?_
    refine jz_mmin (dk dt_X9_finds 61 rfl) sl_X9_62 (by decide) (Nat.le_of_ble_eq_true rfl) r_67 r_80 ?_
    refine jz_putI (kz := 12) (dk dt_X9_finds 62 rfl) fl_X9_115 rfl rfl rfl rfl rfl k_50 w_46 (r32_min r_67 r_80) (fun w_120 => ?_)
    replace H := H _ rfl
    refine j_aload_n (dk dt_X9_finds 63 rfl) rfl ?_
    refine j_iload_n (dk dt_X9_finds 64 rfl) rfl ?_
    refine j_iload (dk dt_X9_finds 65 rfl) rfl ?_
    refine jz_mmax (dk dt_X9_finds 66 rfl) sl_X9_227 (by decide) (Nat.le_of_ble_eq_true rfl) r_67 r_80 ?_
    refine jz_putI (kz := 13) (dk dt_X9_finds 67 rfl) fl_X9_118 rfl rfl rfl rfl rfl k_50 w_120 (r32_max r_67 r_80) (fun w_130 => ?_)
    replace H := H _ rfl
    refine j_aload_n (dk dt_X9_finds 68 rfl) rfl ?_
    refine j_iload (dk dt_X9_finds 69 rfl) rfl ?_
    refine j_iload (dk dt_X9_finds 70 rfl) rfl ?_
    refine jz_mmin (dk dt_X9_finds 71 rfl) sl_X9_62 (by decide) (Nat.le_of_ble_eq_true rfl) r_94 r_108 ?_
    refine jz_putI (kz := 14) (dk dt_X9_finds 72 rfl) fl_X9_121 rfl rfl rfl rfl rfl k_50 w_130 (r32_min r_94 r_108) (fun w_141 => ?_)
    replace H := H _ rfl
    refine j_aload_n (dk dt_X9_finds 73 rfl) rfl ?_
    refine j_iload (dk dt_X9_finds 74 rfl) rfl ?_
    refine j_iload (dk dt_X9_finds 75 rfl) rfl ?_
    refine jz_mmax (dk dt_X9_finds 76 rfl) sl_X9_227 (by decide) (Nat.le_of_ble_eq_true rfl) r_94 r_108 ?_
    refine jz_putI (kz := 15) (dk dt_X9_finds 77 rfl) fl_X9_124 rfl rfl rfl rfl rfl k_50 w_141 (r32_max r_94 r_108) (fun w_152 => ?_)
    replace H := H _ rfl
    refine j_aload_n (dk dt_X9_finds 78 rfl) rfl ?_
    refine jz_getI (kz := 12) (dk dt_X9_finds 79 rfl) fl_X9_115 rfl rfl rfl k_50 ?_
    refine jz_if_le 173 (dk dt_X9_finds 80 rfl) (by decide) (w_152.1 _ _) H (fun H => ?_) (fun H => ?_)
    · exact j_el (T_X9_finds_173  w_152   H) trivial
    · refine j_aload_n (dk dt_X9_finds 81 rfl) rfl ?_
      refine jz_getI (kz := 14) (dk dt_X9_finds 82 rfl) fl_X9_121 rfl rfl rfl k_50 ?_
      refine jz_if_le 173 (dk dt_X9_finds 83 rfl) (by decide) (w_152.1 _ _) H (fun H => ?_) (fun H => ?_)
      · exact j_el (T_X9_finds_173  w_152   H) trivial
      · refine j_iconst (v := Int32.ofInt 1) (dk dt_X9_finds 84 rfl) (by decide) ?_
        refine j_goto 174 (dk dt_X9_finds 85 rfl) (by decide) ?_
        exact j_el (T_X9_finds_174 (by decide) w_152   H) trivial
def F_X9_finds_24  (t0 : Nat) (x1 : Option Nat) (s0 : Int) (z : Z) (P : Int → Z → Prop) : Prop :=
  (if s0 = 0 then (zK z t0 = 10 ∧ F_X9_finds_46 t0 x1 (some t0) (zO z t0 8) z P) else (zK z t0 = 10 ∧ (∃ a_35, x1 = some a_35 ∧ zK z a_35 = 5 ∧ (∃ a_38, zO z t0 0 = some a_38 ∧ zK z a_38 = 21 ∧ (0 ≤ zI z a_35 8 ∧ zI z a_35 8 < zN z a_38 ∧ F_X9_finds_46 t0 x1 (some t0) (zO z a_38 (zI z a_35 8)) z P)))))
theorem T_X9_finds_24  {t0 : Nat} {x1 : Option Nat} {s0 : Int} {z : Z} {P : Int → Z → Prop} (r_s0 : R32 s0) (hw : Wz z)   (H : F_X9_finds_24 t0 x1 s0 z P) : J mX9_finds 4 0 0 (nx (QZI P)) 24 [some (vr (some t0)), some (vr (x1)), none, none, none, none, none] [ii (s0)] (cz z) := by
  unfold F_X9_finds_24 at H
  refine j_istore_n (dk dt_X9_finds 12 rfl) (by decide) ?_
  refine j_aload_n (dk dt_X9_finds 13 rfl) rfl ?_
  refine j_iload_n (dk dt_X9_finds 14 rfl) rfl ?_
  refine jz_if_eq 42 (dk dt_X9_finds 15 rfl) (by decide) r_s0 H (fun H => ?_) (fun H => ?_)
  · refine j_aload_n (dk dt_X9_finds 22 rfl) rfl ?_
    obtain ⟨k_43, H⟩ := H
    refine jz_getO (kz := 8) (dk dt_X9_finds 23 rfl) fl_X9_45 rfl rfl rfl k_43 ?_
    exact j_el (T_X9_finds_46  hw   H) (And.intro rfl (And.intro rfl trivial))
  · refine j_aload_n (dk dt_X9_finds 16 rfl) rfl ?_
    obtain ⟨k_31, H⟩ := H
    refine jz_getO (kz := 0) (dk dt_X9_finds 17 rfl) fl_X9_41 rfl rfl rfl k_31 ?_
    refine j_aload_n (dk dt_X9_finds 18 rfl) rfl ?_
    obtain ⟨a_35, e_35, k_35, H⟩ := H
    refine jz_getI (kz := 8) (dk dt_X9_finds 19 rfl) fl_X9_104 rfl rfl e_35 k_35 ?_
    obtain ⟨a_38, e_38, k_38, H⟩ := H
    obtain ⟨p_38, q_38, H⟩ := H
    refine jz_aald (t := 7) (dk dt_X9_finds 20 rfl) e_38 k_38 (by decide) (by decide) p_38 q_38 hw ?_
    refine j_goto 46 (dk dt_X9_finds 21 rfl) (by decide) ?_
    exact j_el (T_X9_finds_46  hw   H) (And.intro rfl (And.intro rfl trivial))
def F_X9_finds_23  (t0 : Nat) (x1 : Option Nat) (z : Z) (P : Int → Z → Prop) : Prop :=
  F_X9_finds_24 t0 x1 0 z P
theorem T_X9_finds_23  {t0 : Nat} {x1 : Option Nat} {z : Z} {P : Int → Z → Prop}  (hw : Wz z)   (H : F_X9_finds_23 t0 x1 z P) : J mX9_finds 4 0 0 (nx (QZI P)) 23 [some (vr (some t0)), some (vr (x1)), none, none, none, none, none] [] (cz z) := by
  unfold F_X9_finds_23 at H
  refine j_iconst (v := Int32.ofInt 0) (dk dt_X9_finds 11 rfl) (by decide) ?_
  exact j_el (T_X9_finds_24 (by decide) hw   H) (And.intro rfl (And.intro rfl trivial))
def F_X9_finds  (t0 : Nat) (x1 : Option Nat) (z : Z) (P : Int → Z → Prop) : Prop :=
  (∃ a_1, x1 = some a_1 ∧ zK z a_1 = 5 ∧ (if zI z a_1 8 < 0 then F_X9_finds_23 t0 x1 z P else (zK z t0 = 10 ∧ (∃ a_15, zO z t0 0 = some a_15 ∧ zK z a_15 = 21 ∧ (if zN z a_15 ≤ zI z a_1 8 then F_X9_finds_23 t0 x1 z P else F_X9_finds_24 t0 x1 1 z P)))))
theorem T_X9_finds  {t0 : Nat} {x1 : Option Nat} {z : Z} {P : Int → Z → Prop}  (hw : Wz z)  (H : F_X9_finds t0 x1 z P) : Con mX9_finds 4 0 0 [vr (some t0), vr (x1)] (cz z) (QZI P) := by
  refine con_of rfl (Nat.le_of_ble_eq_true rfl) (by decide) ?_
  show J mX9_finds 4 0 0 _ 0 [some (vr (some t0)), some (vr (x1)), none, none, none, none, none] [] (cz z)
  unfold F_X9_finds at H
  refine j_aload_n (dk dt_X9_finds 0 rfl) rfl ?_
  obtain ⟨a_1, e_1, k_1, H⟩ := H
  refine jz_getI (kz := 8) (dk dt_X9_finds 1 rfl) fl_X9_104 rfl rfl e_1 k_1 ?_
  refine jz_if_lt 23 (dk dt_X9_finds 2 rfl) (by decide) (hw.1 _ _) H (fun H => ?_) (fun H => ?_)
  · exact j_el (T_X9_finds_23  hw   H) (And.intro rfl (And.intro rfl trivial))
  · refine j_aload_n (dk dt_X9_finds 3 rfl) rfl ?_
    refine jz_getI (kz := 8) (dk dt_X9_finds 4 rfl) fl_X9_104 rfl rfl e_1 k_1 ?_
    refine j_aload_n (dk dt_X9_finds 5 rfl) rfl ?_
    obtain ⟨k_12, H⟩ := H
    refine jz_getO (kz := 0) (dk dt_X9_finds 6 rfl) fl_X9_41 rfl rfl rfl k_12 ?_
    obtain ⟨a_15, e_15, k_15, H⟩ := H
    refine jz_alen (t := 7) (dk dt_X9_finds 7 rfl) e_15 k_15 (by decide) hw ?_
    refine jz_icmp_ge 23 (dk dt_X9_finds 8 rfl) (by decide) (hw.1 _ _) (r32_len hw _) H (fun H => ?_) (fun H => ?_)
    · exact j_el (T_X9_finds_23  hw   H) (And.intro rfl (And.intro rfl trivial))
    · refine j_iconst (v := Int32.ofInt 1) (dk dt_X9_finds 9 rfl) (by decide) ?_
      refine j_goto 24 (dk dt_X9_finds 10 rfl) (by decide) ?_
      exact j_el (T_X9_finds_24 (by decide) hw   H) (And.intro rfl (And.intro rfl trivial))
def F_X9_standsAlone_48  (s0 : Int) (z : Z) (P : Int → Prop) : Prop :=
  (Z1 s0 ∧ P s0)
theorem T_X9_standsAlone_48  {s0 : Int} {z : Z} {P : Int → Prop} (r_s0 : R32 s0) (hw : Wz z)   (H : F_X9_standsAlone_48 s0 z P) : J mX9_standsAlone 1 0 0 (nx (QPI (cz z) P)) 48 [none, none] [ii (s0)] (cz z) := by
  unfold F_X9_standsAlone_48 at H
  obtain ⟨hz_, H⟩ := H
  exact j_ireturn (dk dt_X9_standsAlone 28 rfl) rfl (nar_z hz_) ⟨_, rfl, r_s0, rfl, H⟩
def F_X9_standsAlone_47  (z : Z) (P : Int → Prop) : Prop :=
  F_X9_standsAlone_48 0 z P
theorem T_X9_standsAlone_47  {z : Z} {P : Int → Prop}  (hw : Wz z)   (H : F_X9_standsAlone_47 z P) : J mX9_standsAlone 1 0 0 (nx (QPI (cz z) P)) 47 [none, none] [] (cz z) := by
  unfold F_X9_standsAlone_47 at H
  refine j_iconst (v := Int32.ofInt 0) (dk dt_X9_standsAlone 27 rfl) (by decide) ?_
  exact j_el (T_X9_standsAlone_48 (by decide) hw   H) trivial
def F_X9_standsAlone_43  (z : Z) (P : Int → Prop) : Prop :=
  F_X9_standsAlone_48 1 z P
theorem T_X9_standsAlone_43  {z : Z} {P : Int → Prop}  (hw : Wz z)   (H : F_X9_standsAlone_43 z P) : J mX9_standsAlone 1 0 0 (nx (QPI (cz z) P)) 43 [none, none] [] (cz z) := by
  unfold F_X9_standsAlone_43 at H
  refine j_iconst (v := Int32.ofInt 1) (dk dt_X9_standsAlone 25 rfl) (by decide) ?_
  refine j_goto 48 (dk dt_X9_standsAlone 26 rfl) (by decide) ?_
  exact j_el (T_X9_standsAlone_48 (by decide) hw   H) trivial
def F_X9_standsAlone  (t0 : Nat) (x1 : Int) (z : Z) (P : Int → Prop) : Prop :=
  (zK z t0 = 10 ∧ (∃ a_7, zO z t0 9 = some a_7 ∧ zK z a_7 = 20 ∧ (if zN z a_7 ≤ w32 (x1 + 1) then F_X9_standsAlone_47 z P else (0 ≤ w32 (x1 + 1) ∧ w32 (x1 + 1) < zN z a_7 ∧ (∃ a_19, zO z a_7 (w32 (x1 + 1)) = some a_19 ∧ zK z a_19 = 5 ∧ (if zI z a_19 0 = 29 then F_X9_standsAlone_43 z P else (if zI z a_19 0 = 30 then F_X9_standsAlone_43 z P else F_X9_standsAlone_47 z P)))))))
theorem T_X9_standsAlone  {t0 : Nat} {x1 : Int} {z : Z} {P : Int → Prop} (r_x1 : R32 x1) (hw : Wz z)  (H : F_X9_standsAlone t0 x1 z P) : Con mX9_standsAlone 1 0 0 [vr (some t0), ii (x1)] (cz z) (QPI (cz z) P) := by
  refine con_of rfl (Nat.le_of_ble_eq_true rfl) (by decide) ?_
  show J mX9_standsAlone 1 0 0 _ 0 [some (vr (some t0)), some (ii (x1))] [] (cz z)
  unfold F_X9_standsAlone at H
  refine j_iload_n (dk dt_X9_standsAlone 0 rfl) rfl ?_
  refine j_iconst (v := Int32.ofInt 1) (dk dt_X9_standsAlone 1 rfl) (by decide) ?_
  refine jz_iadd (dk dt_X9_standsAlone 2 rfl) ?_
  refine j_aload_n (dk dt_X9_standsAlone 3 rfl) rfl ?_
  obtain ⟨k_4, H⟩ := H
  refine jz_getO (kz := 9) (dk dt_X9_standsAlone 4 rfl) fl_X9_87 rfl rfl rfl k_4 ?_
  obtain ⟨a_7, e_7, k_7, H⟩ := H
  refine jz_alen (t := 6) (dk dt_X9_standsAlone 5 rfl) e_7 k_7 (by decide) hw ?_
  refine jz_icmp_ge 47 (dk dt_X9_standsAlone 6 rfl) (by decide) (r32_w _) (r32_len hw _) H (fun H => ?_) (fun H => ?_)
  · exact j_el (T_X9_standsAlone_47  hw   H) trivial
  · refine j_aload_n (dk dt_X9_standsAlone 7 rfl) rfl ?_
    refine jz_getO (kz := 9) (dk dt_X9_standsAlone 8 rfl) fl_X9_87 rfl rfl rfl k_4 ?_
    refine j_iload_n (dk dt_X9_standsAlone 9 rfl) rfl ?_
    refine j_iconst (v := Int32.ofInt 1) (dk dt_X9_standsAlone 10 rfl) (by decide) ?_
    refine jz_iadd (dk dt_X9_standsAlone 11 rfl) ?_
    obtain ⟨p_18, q_18, H⟩ := H
    refine jz_aald (t := 6) (dk dt_X9_standsAlone 12 rfl) e_7 k_7 (by decide) (by decide) p_18 q_18 hw ?_
    obtain ⟨a_19, e_19, k_19, H⟩ := H
    refine jz_getI (kz := 0) (dk dt_X9_standsAlone 13 rfl) fl_X9_91 rfl rfl e_19 k_19 ?_
    refine j_bipush (v := Int32.ofInt 29) (dk dt_X9_standsAlone 14 rfl) (by decide) ?_
    refine jz_icmp_eq 43 (dk dt_X9_standsAlone 15 rfl) (by decide) (hw.1 _ _) (by decide) H (fun H => ?_) (fun H => ?_)
    · exact j_el (T_X9_standsAlone_43  hw   H) trivial
    · refine j_aload_n (dk dt_X9_standsAlone 16 rfl) rfl ?_
      refine jz_getO (kz := 9) (dk dt_X9_standsAlone 17 rfl) fl_X9_87 rfl rfl rfl k_4 ?_
      refine j_iload_n (dk dt_X9_standsAlone 18 rfl) rfl ?_
      refine j_iconst (v := Int32.ofInt 1) (dk dt_X9_standsAlone 19 rfl) (by decide) ?_
      refine jz_iadd (dk dt_X9_standsAlone 20 rfl) ?_
      refine jz_aald (t := 6) (dk dt_X9_standsAlone 21 rfl) e_7 k_7 (by decide) (by decide) p_18 q_18 hw ?_
      refine jz_getI (kz := 0) (dk dt_X9_standsAlone 22 rfl) fl_X9_91 rfl rfl e_19 k_19 ?_
      refine j_bipush (v := Int32.ofInt 30) (dk dt_X9_standsAlone 23 rfl) (by decide) ?_
      refine jz_icmp_ne 47 (dk dt_X9_standsAlone 24 rfl) (by decide) (hw.1 _ _) (by decide) H (fun H => ?_) (fun H => ?_)
      · exact j_el (T_X9_standsAlone_43  hw   H) trivial
      · exact j_el (T_X9_standsAlone_47  hw   H) trivial
def F_X9_findLeads_182  (t0 : Nat) (x1 : Int) (x2 : Int) (z : Z) (P : (Int × Z) ⊕ ((Z)) → Prop) : Prop :=
  P (.inl (w32 (x2 + 1), z))
theorem T_X9_findLeads_182  {t0 : Nat} {x1 : Int} {x2 : Int} {z : Z} {P : (Int × Z) ⊕ ((Z)) → Prop} {post : Option Sv ⊕ String → Hp → Prop} (r_x1 : R32 x1) (r_x2 : R32 x2) (hw : Wz z)  (hl : ∀ (x2 : Int) (z : Z), P (.inl (x2, z)) → Wz z → R32 x2 → J mX9_findLeads 5 0 0 post 28 [some (vr (some t0)), some (ii (x1)), some (ii (x2)), none, none, none, none] [] (cz z)) (he0 : ∀ (z : Z), P (.inr z) → Wz z → J mX9_findLeads 5 0 0 post 188 [none, none, none, none, none, none, none] [] (cz z)) (H : F_X9_findLeads_182 t0 x1 x2 z P) : J mX9_findLeads 5 0 0 (post) 182 [some (vr (some t0)), some (ii (x1)), some (ii (x2)), none, none, none, none] [] (cz z) := by
  unfold F_X9_findLeads_182 at H
  refine jz_iinc (dk dt_X9_findLeads 101 rfl) rfl ?_
  refine j_goto 28 (dk dt_X9_findLeads 102 rfl) (by decide) ?_
  exact j_el (hl _ _ H hw (r32_w _)) (And.intro rfl (And.intro rfl (And.intro rfl trivial)))
def L_X9_findLeads_117  (t0 : Nat) (x1 : Int) (x2 : Int) (x4 : Int) (x5 : Int) (z : Z) (P : (Int × Z) ⊕ ((Z)) → Prop) : Prop :=
  (zK z t0 = 10 ∧ (if zI z t0 15 < x5 then P (.inr z) else (∃ a_134, zO z t0 8 = some a_134 ∧ zK z a_134 = 7 ∧ (∃ a_137, zO z a_134 1 = some a_137 ∧ zK z a_137 = 15 ∧ (∃ a_160, zO z t0 3 = some a_160 ∧ zK z a_160 = 16 ∧ (0 ≤ w32 (w32 (x1 * 5) + (w32 (Int.tdiv (w32 ((w32 (w32 ((w32 (x4 - 1)) * (zN z a_137)) + x5)) - 1)) 64))) ∧ w32 (w32 (x1 * 5) + (w32 (Int.tdiv (w32 ((w32 (w32 ((w32 (x4 - 1)) * (zN z a_137)) + x5)) - 1)) 64))) < zN z a_160 ∧ (∀ z_169, z_169 = wG z a_160 (w32 (w32 (x1 * 5) + (w32 (Int.tdiv (w32 ((w32 (w32 ((w32 (x4 - 1)) * (zN z a_137)) + x5)) - 1)) 64)))) (lOr (zG z a_160 (w32 (w32 (x1 * 5) + (w32 (Int.tdiv (w32 ((w32 (w32 ((w32 (x4 - 1)) * (zN z a_137)) + x5)) - 1)) 64))))) (lShl 1 (w32 (Int.tmod (w32 ((w32 (w32 ((w32 (x4 - 1)) * (zN z a_137)) + x5)) - 1)) 64)))) → P (.inl (w32 (x5 + 1), z_169)))))))))
theorem U_X9_findLeads_117  {t0 : Nat} {x1 : Int} {x2 : Int} {x4 : Int} {x5 : Int} {z : Z} {P : (Int × Z) ⊕ ((Z)) → Prop} {post : Option Sv ⊕ String → Hp → Prop} (r_x1 : R32 x1) (r_x2 : R32 x2) (r_x4 : R32 x4) (r_x5 : R32 x5) (hw : Wz z)  (hl : ∀ (x5 : Int) (z : Z), P (.inl (x5, z)) → Wz z → R32 x5 → J mX9_findLeads 5 0 0 post 117 [some (vr (some t0)), some (ii (x1)), some (ii (x2)), none, some (ii (x4)), some (ii (x5)), none] [] (cz z)) (he0 : ∀ (z : Z), P (.inr z) → Wz z → J mX9_findLeads 5 0 0 post 176 [some (vr (some t0)), some (ii (x1)), some (ii (x2)), none, some (ii (x4)), none, none] [] (cz z)) (H : L_X9_findLeads_117 t0 x1 x2 x4 x5 z P) : J mX9_findLeads 5 0 0 post 117 [some (vr (some t0)), some (ii (x1)), some (ii (x2)), none, some (ii (x4)), some (ii (x5)), none] [] (cz z) := by
  unfold L_X9_findLeads_117 at H
  refine j_iload (dk dt_X9_findLeads 62 rfl) rfl ?_
  refine j_aload_n (dk dt_X9_findLeads 63 rfl) rfl ?_
  obtain ⟨k_120, H⟩ := H
  refine jz_getI (kz := 15) (dk dt_X9_findLeads 64 rfl) fl_X9_124 rfl rfl rfl k_120 ?_
  refine jz_icmp_gt 176 (dk dt_X9_findLeads 65 rfl) (by decide) r_x5 (hw.1 _ _) H (fun H => ?_) (fun H => ?_)
  · exact j_el (he0 _ H hw) (And.intro rfl (And.intro rfl (And.intro rfl (And.intro rfl trivial))))
  · refine j_iload (dk dt_X9_findLeads 66 rfl) rfl ?_
    refine j_iconst (v := Int32.ofInt 1) (dk dt_X9_findLeads 67 rfl) (by decide) ?_
    refine jz_isub (dk dt_X9_findLeads 68 rfl) ?_
    refine j_aload_n (dk dt_X9_findLeads 69 rfl) rfl ?_
    refine jz_getO (kz := 8) (dk dt_X9_findLeads 70 rfl) fl_X9_45 rfl rfl rfl k_120 ?_
    obtain ⟨a_134, e_134, k_134, H⟩ := H
    refine jz_getO (kz := 1) (dk dt_X9_findLeads 71 rfl) fl_X9_127 rfl rfl e_134 k_134 ?_
    obtain ⟨a_137, e_137, k_137, H⟩ := H
    refine jz_alen (t := 1) (dk dt_X9_findLeads 72 rfl) e_137 k_137 (by decide) hw ?_
    refine jz_imul (dk dt_X9_findLeads 73 rfl) ?_
    refine j_iload (dk dt_X9_findLeads 74 rfl) rfl ?_
    refine jz_iadd (dk dt_X9_findLeads 75 rfl) ?_
    refine j_iconst (v := Int32.ofInt 1) (dk dt_X9_findLeads 76 rfl) (by decide) ?_
    refine jz_isub (dk dt_X9_findLeads 77 rfl) ?_
    refine j_istore (dk dt_X9_findLeads 78 rfl) (by decide) ?_
    refine j_aload_n (dk dt_X9_findLeads 79 rfl) rfl ?_
    refine jz_getO (kz := 3) (dk dt_X9_findLeads 80 rfl) fl_X9_24 rfl rfl rfl k_120 ?_
    refine j_iload_n (dk dt_X9_findLeads 81 rfl) rfl ?_
    refine j_iconst (v := Int32.ofInt 5) (dk dt_X9_findLeads 82 rfl) (by decide) ?_
    refine jz_imul (dk dt_X9_findLeads 83 rfl) ?_
    refine j_iload (dk dt_X9_findLeads 84 rfl) rfl ?_
    refine j_bipush (v := Int32.ofInt 64) (dk dt_X9_findLeads 85 rfl) (by decide) ?_
    refine jz_idiv (dk dt_X9_findLeads 86 rfl) (r32_w _) (by decide) (by decide) ?_
    refine jz_iadd (dk dt_X9_findLeads 87 rfl) ?_
    refine j_dup2 (dk dt_X9_findLeads 88 rfl) rfl rfl ?_
    obtain ⟨a_160, e_160, k_160, H⟩ := H
    obtain ⟨p_160, q_160, H⟩ := H
    refine jz_lald (dk dt_X9_findLeads 89 rfl) e_160 k_160 p_160 q_160 hw ?_
    refine j_lconst (v := Int64.ofInt 1) (dk dt_X9_findLeads 90 rfl) (by decide) ?_
    refine j_iload (dk dt_X9_findLeads 91 rfl) rfl ?_
    refine j_bipush (v := Int32.ofInt 64) (dk dt_X9_findLeads 92 rfl) (by decide) ?_
    refine jz_irem (dk dt_X9_findLeads 93 rfl) (r32_w _) (by decide) (by decide) ?_
    refine jz_lshl (dk dt_X9_findLeads 94 rfl) ?_
    refine jz_lor (dk dt_X9_findLeads 95 rfl) ?_
    refine jz_last (dk dt_X9_findLeads 96 rfl) e_160 k_160 p_160 q_160 hw (r64_t _) (fun w_169 => ?_)
    replace H := H _ rfl
    refine jz_iinc (dk dt_X9_findLeads 97 rfl) rfl ?_
    refine j_goto 117 (dk dt_X9_findLeads 98 rfl) (by decide) ?_
    exact j_el (hl _ _ H w_169 (r32_w _)) (And.intro rfl (And.intro rfl (And.intro rfl (And.intro rfl (And.intro rfl trivial)))))
def F_X9_findLeads_117  (t0 : Nat) (x1 : Int) (x2 : Int) (x4 : Int) (x5 : Int) (z : Z) (P : (Int × Z) ⊕ ((Z)) → Prop) : Prop :=
  lp (S := Int × Z) (E := (Z)) (fun q P_ => L_X9_findLeads_117 t0 x1 x2 x4 q.1 q.2 P_) (x5, z) (fun (z : Z) => P (.inl (w32 (x4 + 1), z)))
theorem T_X9_findLeads_117  {t0 : Nat} {x1 : Int} {x2 : Int} {x4 : Int} {x5 : Int} {z : Z} {P : (Int × Z) ⊕ ((Z)) → Prop} {post : Option Sv ⊕ String → Hp → Prop} (r_x1 : R32 x1) (r_x2 : R32 x2) (r_x4 : R32 x4) (r_x5 : R32 x5) (hw : Wz z)  (hl : ∀ (x4 : Int) (z : Z), P (.inl (x4, z)) → Wz z → R32 x4 → J mX9_findLeads 5 0 0 post 102 [some (vr (some t0)), some (ii (x1)), some (ii (x2)), none, some (ii (x4)), none, none] [] (cz z)) (he0 : ∀ (z : Z), P (.inr z) → Wz z → J mX9_findLeads 5 0 0 post 182 [some (vr (some t0)), some (ii (x1)), some (ii (x2)), none, none, none, none] [] (cz z)) (H : F_X9_findLeads_117 t0 x1 x2 x4 x5 z P) : J mX9_findLeads 5 0 0 (post) 117 [some (vr (some t0)), some (ii (x1)), some (ii (x2)), none, some (ii (x4)), some (ii (x5)), none] [] (cz z) := by
  unfold F_X9_findLeads_117 at H
  refine lp_J (G := fun q => Wz (q.2) → R32 (q.1) → J mX9_findLeads 5 0 0 (post) 117 [some (vr (some t0)), some (ii (x1)), some (ii (x2)), none, some (ii (x4)), some (ii ((q.1))), none] [] (cz (q.2))) (fun q P_ hl_ he_ Hb => ?_) (x5, z) H hw r_x5
  obtain ⟨x5, z⟩ := q
  intro hw r_x5
  refine U_X9_findLeads_117 (P := P_) r_x1 r_x2 r_x4 r_x5 hw  (fun x5 z Hp hw r_x5 => hl_ (x5, z) Hp hw r_x5) ?_ Hb
  · intro z Hp hw
    have H := he_ _ Hp
    refine jz_iinc (dk dt_X9_findLeads 99 rfl) rfl ?_
    refine j_goto 102 (dk dt_X9_findLeads 100 rfl) (by decide) ?_
    exact j_el (hl _ _ H hw (r32_w _)) (And.intro rfl (And.intro rfl (And.intro rfl (And.intro rfl trivial))))
def L_X9_findLeads_102  (t0 : Nat) (x1 : Int) (x2 : Int) (x4 : Int) (z : Z) (P : (Int × Z) ⊕ ((Z)) → Prop) : Prop :=
  (zK z t0 = 10 ∧ (if zI z t0 13 < x4 then P (.inr z) else F_X9_findLeads_117 t0 x1 x2 x4 (zI z t0 14) z P))
theorem U_X9_findLeads_102  {t0 : Nat} {x1 : Int} {x2 : Int} {x4 : Int} {z : Z} {P : (Int × Z) ⊕ ((Z)) → Prop} {post : Option Sv ⊕ String → Hp → Prop} (r_x1 : R32 x1) (r_x2 : R32 x2) (r_x4 : R32 x4) (hw : Wz z)  (hl : ∀ (x4 : Int) (z : Z), P (.inl (x4, z)) → Wz z → R32 x4 → J mX9_findLeads 5 0 0 post 102 [some (vr (some t0)), some (ii (x1)), some (ii (x2)), none, some (ii (x4)), none, none] [] (cz z)) (he0 : ∀ (z : Z), P (.inr z) → Wz z → J mX9_findLeads 5 0 0 post 182 [some (vr (some t0)), some (ii (x1)), some (ii (x2)), none, none, none, none] [] (cz z)) (H : L_X9_findLeads_102 t0 x1 x2 x4 z P) : J mX9_findLeads 5 0 0 post 102 [some (vr (some t0)), some (ii (x1)), some (ii (x2)), none, some (ii (x4)), none, none] [] (cz z) := by
  unfold L_X9_findLeads_102 at H
  refine j_iload (dk dt_X9_findLeads 55 rfl) rfl ?_
  refine j_aload_n (dk dt_X9_findLeads 56 rfl) rfl ?_
  obtain ⟨k_105, H⟩ := H
  refine jz_getI (kz := 13) (dk dt_X9_findLeads 57 rfl) fl_X9_118 rfl rfl rfl k_105 ?_
  refine jz_icmp_gt 182 (dk dt_X9_findLeads 58 rfl) (by decide) r_x4 (hw.1 _ _) H (fun H => ?_) (fun H => ?_)
  · exact j_el (he0 _ H hw) (And.intro rfl (And.intro rfl (And.intro rfl trivial)))
  · refine j_aload_n (dk dt_X9_findLeads 59 rfl) rfl ?_
    refine jz_getI (kz := 14) (dk dt_X9_findLeads 60 rfl) fl_X9_121 rfl rfl rfl k_105 ?_
    refine j_istore (dk dt_X9_findLeads 61 rfl) (by decide) ?_
    exact j_el (T_X9_findLeads_117 r_x1 r_x2 r_x4 (hw.1 _ _) hw  hl he0 H) (And.intro rfl (And.intro rfl (And.intro rfl (And.intro rfl (And.intro rfl trivial)))))
def F_X9_findLeads_102  (t0 : Nat) (x1 : Int) (x2 : Int) (x4 : Int) (z : Z) (P : (Int × Z) ⊕ ((Z)) → Prop) : Prop :=
  lp (S := Int × Z) (E := (Z)) (fun q P_ => L_X9_findLeads_102 t0 x1 x2 q.1 q.2 P_) (x4, z) (fun (z : Z) => F_X9_findLeads_182 t0 x1 x2 z P)
theorem T_X9_findLeads_102  {t0 : Nat} {x1 : Int} {x2 : Int} {x4 : Int} {z : Z} {P : (Int × Z) ⊕ ((Z)) → Prop} {post : Option Sv ⊕ String → Hp → Prop} (r_x1 : R32 x1) (r_x2 : R32 x2) (r_x4 : R32 x4) (hw : Wz z)  (hl : ∀ (x2 : Int) (z : Z), P (.inl (x2, z)) → Wz z → R32 x2 → J mX9_findLeads 5 0 0 post 28 [some (vr (some t0)), some (ii (x1)), some (ii (x2)), none, none, none, none] [] (cz z)) (he0 : ∀ (z : Z), P (.inr z) → Wz z → J mX9_findLeads 5 0 0 post 188 [none, none, none, none, none, none, none] [] (cz z)) (H : F_X9_findLeads_102 t0 x1 x2 x4 z P) : J mX9_findLeads 5 0 0 (post) 102 [some (vr (some t0)), some (ii (x1)), some (ii (x2)), none, some (ii (x4)), none, none] [] (cz z) := by
  unfold F_X9_findLeads_102 at H
  refine lp_J (G := fun q => Wz (q.2) → R32 (q.1) → J mX9_findLeads 5 0 0 (post) 102 [some (vr (some t0)), some (ii (x1)), some (ii (x2)), none, some (ii ((q.1))), none, none] [] (cz (q.2))) (fun q P_ hl_ he_ Hb => ?_) (x4, z) H hw r_x4
  obtain ⟨x4, z⟩ := q
  intro hw r_x4
  refine U_X9_findLeads_102 (P := P_) r_x1 r_x2 r_x4 hw  (fun x4 z Hp hw r_x4 => hl_ (x4, z) Hp hw r_x4) ?_ Hb
  · intro z Hp hw
    have H := he_ _ Hp
    exact j_el (T_X9_findLeads_182 r_x1 r_x2 hw  hl he0 H) (And.intro rfl (And.intro rfl (And.intro rfl trivial)))
def F_X9_findLeads_75  (t0 : Nat) (x1 : Int) (x2 : Int) (s0 : Int) (z : Z) (P : (Int × Z) ⊕ ((Z)) → Prop) : Prop :=
  (if s0 = 0 then F_X9_findLeads_182 t0 x1 x2 z P else (zK z t0 = 10 ∧ (∃ a_86, zO z t0 9 = some a_86 ∧ zK z a_86 = 20 ∧ (0 ≤ x2 ∧ x2 < zN z a_86 ∧ F_X9_finds t0 (zO z a_86 x2) z (fun x_87 z_87 => (if x_87 = 0 then F_X9_findLeads_182 t0 x1 x2 z_87 P else (zK z_87 t0 = 10 ∧ F_X9_findLeads_102 t0 x1 x2 (zI z_87 t0 12) z_87 P)))))))
theorem T_X9_findLeads_75  {t0 : Nat} {x1 : Int} {x2 : Int} {s0 : Int} {z : Z} {P : (Int × Z) ⊕ ((Z)) → Prop} {post : Option Sv ⊕ String → Hp → Prop} (r_x1 : R32 x1) (r_x2 : R32 x2) (r_s0 : R32 s0) (hw : Wz z)  (hl : ∀ (x2 : Int) (z : Z), P (.inl (x2, z)) → Wz z → R32 x2 → J mX9_findLeads 5 0 0 post 28 [some (vr (some t0)), some (ii (x1)), some (ii (x2)), none, none, none, none] [] (cz z)) (he0 : ∀ (z : Z), P (.inr z) → Wz z → J mX9_findLeads 5 0 0 post 188 [none, none, none, none, none, none, none] [] (cz z)) (H : F_X9_findLeads_75 t0 x1 x2 s0 z P) : J mX9_findLeads 5 0 0 (post) 75 [some (vr (some t0)), some (ii (x1)), some (ii (x2)), none, none, none, none] [ii (s0)] (cz z) := by
  unfold F_X9_findLeads_75 at H
  refine j_istore_n (dk dt_X9_findLeads 41 rfl) (by decide) ?_
  refine j_iload_n (dk dt_X9_findLeads 42 rfl) rfl ?_
  refine jz_if_eq 182 (dk dt_X9_findLeads 43 rfl) (by decide) r_s0 H (fun H => ?_) (fun H => ?_)
  · exact j_el (T_X9_findLeads_182 r_x1 r_x2 hw  hl he0 H) (And.intro rfl (And.intro rfl (And.intro rfl trivial)))
  · refine j_aload_n (dk dt_X9_findLeads 44 rfl) rfl ?_
    refine j_aload_n (dk dt_X9_findLeads 45 rfl) rfl ?_
    obtain ⟨k_82, H⟩ := H
    refine jz_getO (kz := 9) (dk dt_X9_findLeads 46 rfl) fl_X9_87 rfl rfl rfl k_82 ?_
    refine j_iload_n (dk dt_X9_findLeads 47 rfl) rfl ?_
    obtain ⟨a_86, e_86, k_86, H⟩ := H
    obtain ⟨p_86, q_86, H⟩ := H
    refine jz_aald (t := 6) (dk dt_X9_findLeads 48 rfl) e_86 k_86 (by decide) (by decide) p_86 q_86 hw ?_
    refine jz_callV1 (dk dt_X9_findLeads 49 rfl) vl_X9_111 rfl (T_X9_finds hw H) k_82 rfl (by decide) (Nat.zero_le _) (Nat.zero_le _) (Nat.le_of_ble_eq_true rfl) (fun v_87 h_87 P_87 => ?_)
    obtain ⟨x_87, z_87, rfl, r_87, rfl, w_87, H⟩ := P_87
    dsimp only [rs]
    refine jz_if_ne 96 (dk dt_X9_findLeads 50 rfl) (by decide) r_87 H (fun H => ?_) (fun H => ?_)
    · refine j_goto 182 (dk dt_X9_findLeads 51 rfl) (by decide) ?_
      exact j_el (T_X9_findLeads_182 r_x1 r_x2 w_87  hl he0 H) (And.intro rfl (And.intro rfl (And.intro rfl trivial)))
    · refine j_aload_n (dk dt_X9_findLeads 52 rfl) rfl ?_
      obtain ⟨k_97, H⟩ := H
      refine jz_getI (kz := 12) (dk dt_X9_findLeads 53 rfl) fl_X9_115 rfl rfl rfl k_97 ?_
      refine j_istore (dk dt_X9_findLeads 54 rfl) (by decide) ?_
      exact j_el (T_X9_findLeads_102 r_x1 r_x2 (w_87.1 _ _) w_87  hl he0 H) (And.intro rfl (And.intro rfl (And.intro rfl (And.intro rfl trivial))))
def F_X9_findLeads_74  (t0 : Nat) (x1 : Int) (x2 : Int) (z : Z) (P : (Int × Z) ⊕ ((Z)) → Prop) : Prop :=
  F_X9_findLeads_75 t0 x1 x2 0 z P
theorem T_X9_findLeads_74  {t0 : Nat} {x1 : Int} {x2 : Int} {z : Z} {P : (Int × Z) ⊕ ((Z)) → Prop} {post : Option Sv ⊕ String → Hp → Prop} (r_x1 : R32 x1) (r_x2 : R32 x2) (hw : Wz z)  (hl : ∀ (x2 : Int) (z : Z), P (.inl (x2, z)) → Wz z → R32 x2 → J mX9_findLeads 5 0 0 post 28 [some (vr (some t0)), some (ii (x1)), some (ii (x2)), none, none, none, none] [] (cz z)) (he0 : ∀ (z : Z), P (.inr z) → Wz z → J mX9_findLeads 5 0 0 post 188 [none, none, none, none, none, none, none] [] (cz z)) (H : F_X9_findLeads_74 t0 x1 x2 z P) : J mX9_findLeads 5 0 0 (post) 74 [some (vr (some t0)), some (ii (x1)), some (ii (x2)), none, none, none, none] [] (cz z) := by
  unfold F_X9_findLeads_74 at H
  refine j_iconst (v := Int32.ofInt 0) (dk dt_X9_findLeads 40 rfl) (by decide) ?_
  exact j_el (T_X9_findLeads_75 r_x1 r_x2 (by decide) hw  hl he0 H) (And.intro rfl (And.intro rfl (And.intro rfl trivial)))
def L_X9_findLeads_28  (t0 : Nat) (x1 : Int) (x2 : Int) (z : Z) (P : (Int × Z) ⊕ ((Z)) → Prop) : Prop :=
  (zK z t0 = 10 ∧ (∃ a_33, zO z t0 9 = some a_33 ∧ zK z a_33 = 20 ∧ (if zN z a_33 ≤ x2 then P (.inr z) else (0 ≤ x2 ∧ x2 < zN z a_33 ∧ (∃ a_43, zO z a_33 x2 = some a_43 ∧ zK z a_43 = 5 ∧ F_X4_isPlace a_43 z (fun x_43 => (if x_43 = 0 then F_X9_findLeads_74 t0 x1 x2 z P else (if zI z a_43 8 = (-1) then F_X9_standsAlone t0 x2 z (fun x_64 => (if x_64 = 0 then F_X9_findLeads_75 t0 x1 x2 1 z P else F_X9_findLeads_74 t0 x1 x2 z P)) else F_X9_findLeads_74 t0 x1 x2 z P))))))))
theorem U_X9_findLeads_28  {t0 : Nat} {x1 : Int} {x2 : Int} {z : Z} {P : (Int × Z) ⊕ ((Z)) → Prop} {post : Option Sv ⊕ String → Hp → Prop} (r_x1 : R32 x1) (r_x2 : R32 x2) (hw : Wz z)  (hl : ∀ (x2 : Int) (z : Z), P (.inl (x2, z)) → Wz z → R32 x2 → J mX9_findLeads 5 0 0 post 28 [some (vr (some t0)), some (ii (x1)), some (ii (x2)), none, none, none, none] [] (cz z)) (he0 : ∀ (z : Z), P (.inr z) → Wz z → J mX9_findLeads 5 0 0 post 188 [none, none, none, none, none, none, none] [] (cz z)) (H : L_X9_findLeads_28 t0 x1 x2 z P) : J mX9_findLeads 5 0 0 post 28 [some (vr (some t0)), some (ii (x1)), some (ii (x2)), none, none, none, none] [] (cz z) := by
  unfold L_X9_findLeads_28 at H
  refine j_iload_n (dk dt_X9_findLeads 16 rfl) rfl ?_
  refine j_aload_n (dk dt_X9_findLeads 17 rfl) rfl ?_
  obtain ⟨k_30, H⟩ := H
  refine jz_getO (kz := 9) (dk dt_X9_findLeads 18 rfl) fl_X9_87 rfl rfl rfl k_30 ?_
  obtain ⟨a_33, e_33, k_33, H⟩ := H
  refine jz_alen (t := 6) (dk dt_X9_findLeads 19 rfl) e_33 k_33 (by decide) hw ?_
  refine jz_icmp_ge 188 (dk dt_X9_findLeads 20 rfl) (by decide) r_x2 (r32_len hw _) H (fun H => ?_) (fun H => ?_)
  · exact j_el (he0 _ H hw) trivial
  · refine j_aload_n (dk dt_X9_findLeads 21 rfl) rfl ?_
    refine jz_getO (kz := 9) (dk dt_X9_findLeads 22 rfl) fl_X9_87 rfl rfl rfl k_30 ?_
    refine j_iload_n (dk dt_X9_findLeads 23 rfl) rfl ?_
    obtain ⟨p_42, q_42, H⟩ := H
    refine jz_aald (t := 6) (dk dt_X9_findLeads 24 rfl) e_33 k_33 (by decide) (by decide) p_42 q_42 hw ?_
    obtain ⟨a_43, e_43, k_43, H⟩ := H
    refine jz_callV0 (dk dt_X9_findLeads 25 rfl) vl_X9_100 e_43 (T_X4_isPlace hw H) k_43 rfl (by decide) (Nat.zero_le _) (Nat.zero_le _) (Nat.le_of_ble_eq_true rfl) (fun v_43 h_43 P_43 => ?_)
    obtain ⟨x_43, rfl, r_43, rfl, H⟩ := P_43
    dsimp only [rs]
    refine jz_if_eq 74 (dk dt_X9_findLeads 26 rfl) (by decide) r_43 H (fun H => ?_) (fun H => ?_)
    · exact j_el (T_X9_findLeads_74 r_x1 r_x2 hw  hl he0 H) (And.intro rfl (And.intro rfl (And.intro rfl trivial)))
    · refine j_aload_n (dk dt_X9_findLeads 27 rfl) rfl ?_
      refine jz_getO (kz := 9) (dk dt_X9_findLeads 28 rfl) fl_X9_87 rfl rfl rfl k_30 ?_
      refine j_iload_n (dk dt_X9_findLeads 29 rfl) rfl ?_
      refine jz_aald (t := 6) (dk dt_X9_findLeads 30 rfl) e_33 k_33 (by decide) (by decide) p_42 q_42 hw ?_
      refine jz_getI (kz := 8) (dk dt_X9_findLeads 31 rfl) fl_X9_104 rfl rfl e_43 k_43 ?_
      refine j_iconst (v := Int32.ofInt (-1)) (dk dt_X9_findLeads 32 rfl) (by decide) ?_
      refine jz_icmp_ne 74 (dk dt_X9_findLeads 33 rfl) (by decide) (hw.1 _ _) (by decide) H (fun H => ?_) (fun H => ?_)
      · refine j_aload_n (dk dt_X9_findLeads 34 rfl) rfl ?_
        refine j_iload_n (dk dt_X9_findLeads 35 rfl) rfl ?_
        refine jz_callV1 (dk dt_X9_findLeads 36 rfl) vl_X9_107 rfl (T_X9_standsAlone r_x2 hw H) k_30 rfl (by decide) (Nat.zero_le _) (Nat.zero_le _) (Nat.le_of_ble_eq_true rfl) (fun v_64 h_64 P_64 => ?_)
        obtain ⟨x_64, rfl, r_64, rfl, H⟩ := P_64
        dsimp only [rs]
        refine jz_if_ne 74 (dk dt_X9_findLeads 37 rfl) (by decide) r_64 H (fun H => ?_) (fun H => ?_)
        · refine j_iconst (v := Int32.ofInt 1) (dk dt_X9_findLeads 38 rfl) (by decide) ?_
          refine j_goto 75 (dk dt_X9_findLeads 39 rfl) (by decide) ?_
          exact j_el (T_X9_findLeads_75 r_x1 r_x2 (by decide) hw  hl he0 H) (And.intro rfl (And.intro rfl (And.intro rfl trivial)))
        · exact j_el (T_X9_findLeads_74 r_x1 r_x2 hw  hl he0 H) (And.intro rfl (And.intro rfl (And.intro rfl trivial)))
      · exact j_el (T_X9_findLeads_74 r_x1 r_x2 hw  hl he0 H) (And.intro rfl (And.intro rfl (And.intro rfl trivial)))
def F_X9_findLeads_28  (t0 : Nat) (x1 : Int) (x2 : Int) (z : Z) (P : Z → Prop) : Prop :=
  lp (S := Int × Z) (E := (Z)) (fun q P_ => L_X9_findLeads_28 t0 x1 q.1 q.2 P_) (x2, z) (fun (z : Z) => P z)
theorem T_X9_findLeads_28  {t0 : Nat} {x1 : Int} {x2 : Int} {z : Z} {P : Z → Prop} (r_x1 : R32 x1) (r_x2 : R32 x2) (hw : Wz z)   (H : F_X9_findLeads_28 t0 x1 x2 z P) : J mX9_findLeads 5 0 0 (nx (QZV P)) 28 [some (vr (some t0)), some (ii (x1)), some (ii (x2)), none, none, none, none] [] (cz z) := by
  unfold F_X9_findLeads_28 at H
  refine lp_J (G := fun q => Wz (q.2) → R32 (q.1) → J mX9_findLeads 5 0 0 (nx (QZV P)) 28 [some (vr (some t0)), some (ii (x1)), some (ii ((q.1))), none, none, none, none] [] (cz (q.2))) (fun q P_ hl_ he_ Hb => ?_) (x2, z) H hw r_x2
  obtain ⟨x2, z⟩ := q
  intro hw r_x2
  refine U_X9_findLeads_28 (P := P_) r_x1 r_x2 hw  (fun x2 z Hp hw r_x2 => hl_ (x2, z) Hp hw r_x2) ?_ Hb
  · intro z Hp hw
    have H := he_ _ Hp
    exact j_return (dk dt_X9_findLeads 103 rfl) rfl ⟨_, rfl, rfl, hw, H⟩
def F_X9_findLeads  (t0 : Nat) (x1 : Int) (z : Z) (P : Z → Prop) : Prop :=
  (zK z t0 = 10 ∧ F_X9_clear (zO z t0 3) (w32 (x1 * 5)) z (fun z_7 => (zK z_7 t0 = 10 ∧ (∃ a_15, zO z_7 t0 8 = some a_15 ∧ zK z_7 a_15 = 7 ∧ (∃ a_19, zO z_7 a_15 2 = some a_19 ∧ zK z_7 a_19 = 19 ∧ (0 ≤ x1 ∧ x1 < zN z_7 a_19 ∧ (∃ a_20, zO z_7 a_19 x1 = some a_20 ∧ zK z_7 a_20 = 2 ∧ (∀ z_23, z_23 = wO z_7 t0 9 (zO z_7 a_20 2) → F_X9_findLeads_28 t0 x1 0 z_23 P))))))))
theorem T_X9_findLeads  {t0 : Nat} {x1 : Int} {z : Z} {P : Z → Prop} (r_x1 : R32 x1) (hw : Wz z)  (H : F_X9_findLeads t0 x1 z P) : Con mX9_findLeads 5 0 0 [vr (some t0), ii (x1)] (cz z) (QZV P) := by
  refine con_of rfl (Nat.le_of_ble_eq_true rfl) (by decide) ?_
  show J mX9_findLeads 5 0 0 _ 0 [some (vr (some t0)), some (ii (x1)), none, none, none, none, none] [] (cz z)
  unfold F_X9_findLeads at H
  refine j_aload_n (dk dt_X9_findLeads 0 rfl) rfl ?_
  obtain ⟨k_1, H⟩ := H
  refine jz_getO (kz := 3) (dk dt_X9_findLeads 1 rfl) fl_X9_24 rfl rfl rfl k_1 ?_
  refine j_iload_n (dk dt_X9_findLeads 2 rfl) rfl ?_
  refine j_iconst (v := Int32.ofInt 5) (dk dt_X9_findLeads 3 rfl) (by decide) ?_
  refine jz_imul (dk dt_X9_findLeads 4 rfl) ?_
  refine j_callS2 (dk dt_X9_findLeads 5 rfl) sl_X9_54 (T_X9_clear (r32_w _) hw H) rfl (by decide) (Nat.zero_le _) (Nat.zero_le _) (Nat.le_of_ble_eq_true rfl) (fun v_7 h_7 P_7 => ?_)
  obtain ⟨z_7, rfl, rfl, w_7, H⟩ := P_7
  dsimp only [rs]
  refine j_aload_n (dk dt_X9_findLeads 6 rfl) rfl ?_
  refine j_aload_n (dk dt_X9_findLeads 7 rfl) rfl ?_
  obtain ⟨k_12, H⟩ := H
  refine jz_getO (kz := 8) (dk dt_X9_findLeads 8 rfl) fl_X9_45 rfl rfl rfl k_12 ?_
  obtain ⟨a_15, e_15, k_15, H⟩ := H
  refine jz_getO (kz := 2) (dk dt_X9_findLeads 9 rfl) fl_X9_58 rfl rfl e_15 k_15 ?_
  refine j_iload_n (dk dt_X9_findLeads 10 rfl) rfl ?_
  obtain ⟨a_19, e_19, k_19, H⟩ := H
  obtain ⟨p_19, q_19, H⟩ := H
  refine jz_aald (t := 5) (dk dt_X9_findLeads 11 rfl) e_19 k_19 (by decide) (by decide) p_19 q_19 w_7 ?_
  obtain ⟨a_20, e_20, k_20, H⟩ := H
  refine jz_getO (kz := 2) (dk dt_X9_findLeads 12 rfl) fl_X9_97 rfl rfl e_20 k_20 ?_
  refine jz_putO (kz := 9) (dk dt_X9_findLeads 13 rfl) fl_X9_87 rfl rfl rfl k_12 w_7 (fun w_23 => ?_)
  replace H := H _ rfl
  refine j_iconst (v := Int32.ofInt 0) (dk dt_X9_findLeads 14 rfl) (by decide) ?_
  refine j_istore_n (dk dt_X9_findLeads 15 rfl) (by decide) ?_
  exact j_el (T_X9_findLeads_28 r_x1 (by decide) w_23   H) (And.intro rfl (And.intro rfl (And.intro rfl trivial)))
def F_X9_close  (t0 : Nat) (x1 : Int) (z : Z) (P : Z → Prop) : Prop :=
  (zK z t0 = 10 ∧ (∃ a_9, zO z t0 5 = some a_9 ∧ zK z a_9 = 16 ∧ (0 ≤ w32 (Int.tdiv x1 64) ∧ w32 (Int.tdiv x1 64) < zN z a_9 ∧ (∀ z_21, z_21 = wG z a_9 (w32 (Int.tdiv x1 64)) (lAnd (zG z a_9 (w32 (Int.tdiv x1 64))) (lXor (lShl 1 (w32 (Int.tmod x1 64))) (-1))) → P z_21))))
theorem T_X9_close  {t0 : Nat} {x1 : Int} {z : Z} {P : Z → Prop} (r_x1 : R32 x1) (hw : Wz z)  (H : F_X9_close t0 x1 z P) : Con mX9_close 1 0 0 [vr (some t0), ii (x1)] (cz z) (QZV P) := by
  refine con_of rfl (Nat.le_of_ble_eq_true rfl) (by decide) ?_
  show J mX9_close 1 0 0 _ 0 [some (vr (some t0)), some (ii (x1))] [] (cz z)
  unfold F_X9_close at H
  refine j_aload_n (dk dt_X9_close 0 rfl) rfl ?_
  obtain ⟨k_1, H⟩ := H
  refine jz_getO (kz := 5) (dk dt_X9_close 1 rfl) fl_X9_31 rfl rfl rfl k_1 ?_
  refine j_iload_n (dk dt_X9_close 2 rfl) rfl ?_
  refine j_bipush (v := Int32.ofInt 64) (dk dt_X9_close 3 rfl) (by decide) ?_
  refine jz_idiv (dk dt_X9_close 4 rfl) r_x1 (by decide) (by decide) ?_
  refine j_dup2 (dk dt_X9_close 5 rfl) rfl rfl ?_
  obtain ⟨a_9, e_9, k_9, H⟩ := H
  obtain ⟨p_9, q_9, H⟩ := H
  refine jz_lald (dk dt_X9_close 6 rfl) e_9 k_9 p_9 q_9 hw ?_
  refine j_lconst (v := Int64.ofInt 1) (dk dt_X9_close 7 rfl) (by decide) ?_
  refine j_iload_n (dk dt_X9_close 8 rfl) rfl ?_
  refine j_bipush (v := Int32.ofInt 64) (dk dt_X9_close 9 rfl) (by decide) ?_
  refine jz_irem (dk dt_X9_close 10 rfl) r_x1 (by decide) (by decide) ?_
  refine jz_lshl (dk dt_X9_close 11 rfl) ?_
  refine j_ldc2 (v := Int64.ofInt (-1)) (dk dt_X9_close 12 rfl) (by exact kl_X9_85) ?_
  refine jz_lxor (dk dt_X9_close 13 rfl) ?_
  refine jz_land (dk dt_X9_close 14 rfl) ?_
  refine jz_last (dk dt_X9_close 15 rfl) e_9 k_9 p_9 q_9 hw (r64_t _) (fun w_21 => ?_)
  replace H := H _ rfl
  exact j_return (dk dt_X9_close 16 rfl) rfl ⟨_, rfl, rfl, w_21, H⟩
def L_X9_firstOpenOf_2  (t0 : Nat) (x1 : Int) (x2 : Int) (z : Z) (P : Int ⊕ ((Unit) ⊕ (Int × Int)) → Prop) : Prop :=
  (if 5 ≤ x2 then P (.inr (.inl ())) else (zK z t0 = 10 ∧ (∃ a_16, zO z t0 3 = some a_16 ∧ zK z a_16 = 16 ∧ (0 ≤ w32 (w32 (x1 * 5) + x2) ∧ w32 (w32 (x1 * 5) + x2) < zN z a_16 ∧ (∃ a_22, zO z t0 5 = some a_22 ∧ zK z a_22 = 16 ∧ (0 ≤ x2 ∧ x2 < zN z a_22 ∧ (if lAnd (zG z a_16 (w32 (w32 (x1 * 5) + x2))) (zG z a_22 x2) = 0 then P (.inl (w32 (x2 + 1))) else P (.inr (.inr (x2, lAnd (zG z a_16 (w32 (w32 (x1 * 5) + x2))) (zG z a_22 x2)))))))))))
theorem U_X9_firstOpenOf_2  {t0 : Nat} {x1 : Int} {x2 : Int} {z : Z} {P : Int ⊕ ((Unit) ⊕ (Int × Int)) → Prop} {post : Option Sv ⊕ String → Hp → Prop} (r_x1 : R32 x1) (r_x2 : R32 x2) (hw : Wz z)  (hl : ∀ (x2 : Int), P (.inl x2) → R32 x2 → J mX9_firstOpenOf 5 0 0 post 2 [some (vr (some t0)), some (ii (x1)), some (ii (x2)), none, none] [] (cz z)) (he0 : P (.inr (.inl ())) → J mX9_firstOpenOf 5 0 0 post 47 [none, none, none, none, none] [] (cz z)) (he1 : ∀ (x2 : Int) (x3 : Int), P (.inr (.inr (x2, x3))) → R32 x2 → R64 x3 → J mX9_firstOpenOf 5 0 0 post 31 [none, none, some (ii (x2)), some (ll (x3)), none] [] (cz z)) (H : L_X9_firstOpenOf_2 t0 x1 x2 z P) : J mX9_firstOpenOf 5 0 0 post 2 [some (vr (some t0)), some (ii (x1)), some (ii (x2)), none, none] [] (cz z) := by
  unfold L_X9_firstOpenOf_2 at H
  refine j_iload_n (dk dt_X9_firstOpenOf 2 rfl) rfl ?_
  refine j_iconst (v := Int32.ofInt 5) (dk dt_X9_firstOpenOf 3 rfl) (by decide) ?_
  refine jz_icmp_ge 47 (dk dt_X9_firstOpenOf 4 rfl) (by decide) r_x2 (by decide) H (fun H => ?_) (fun H => ?_)
  · exact j_el (he0  H ) trivial
  · refine j_aload_n (dk dt_X9_firstOpenOf 5 rfl) rfl ?_
    obtain ⟨k_8, H⟩ := H
    refine jz_getO (kz := 3) (dk dt_X9_firstOpenOf 6 rfl) fl_X9_24 rfl rfl rfl k_8 ?_
    refine j_iload_n (dk dt_X9_firstOpenOf 7 rfl) rfl ?_
    refine j_iconst (v := Int32.ofInt 5) (dk dt_X9_firstOpenOf 8 rfl) (by decide) ?_
    refine jz_imul (dk dt_X9_firstOpenOf 9 rfl) ?_
    refine j_iload_n (dk dt_X9_firstOpenOf 10 rfl) rfl ?_
    refine jz_iadd (dk dt_X9_firstOpenOf 11 rfl) ?_
    obtain ⟨a_16, e_16, k_16, H⟩ := H
    obtain ⟨p_16, q_16, H⟩ := H
    refine jz_lald (dk dt_X9_firstOpenOf 12 rfl) e_16 k_16 p_16 q_16 hw ?_
    refine j_aload_n (dk dt_X9_firstOpenOf 13 rfl) rfl ?_
    refine jz_getO (kz := 5) (dk dt_X9_firstOpenOf 14 rfl) fl_X9_31 rfl rfl rfl k_8 ?_
    refine j_iload_n (dk dt_X9_firstOpenOf 15 rfl) rfl ?_
    obtain ⟨a_22, e_22, k_22, H⟩ := H
    obtain ⟨p_22, q_22, H⟩ := H
    refine jz_lald (dk dt_X9_firstOpenOf 16 rfl) e_22 k_22 p_22 q_22 hw ?_
    refine jz_land (dk dt_X9_firstOpenOf 17 rfl) ?_
    refine j_lstore_n (dk dt_X9_firstOpenOf 18 rfl) (by decide) ?_
    refine j_lload_n (dk dt_X9_firstOpenOf 19 rfl) rfl ?_
    refine j_lconst (v := Int64.ofInt 0) (dk dt_X9_firstOpenOf 20 rfl) (by decide) ?_
    refine jz_lcmp (dk dt_X9_firstOpenOf 21 rfl) (r64_t _) (by decide) ?_
    refine jz_lif_eq 41 (dk dt_X9_firstOpenOf 22 rfl) (by decide) H (fun H => ?_) (fun H => ?_)
    · refine jz_iinc (dk dt_X9_firstOpenOf 30 rfl) rfl ?_
      refine j_goto 2 (dk dt_X9_firstOpenOf 31 rfl) (by decide) ?_
      exact j_el (hl _ H (r32_w _)) (And.intro rfl (And.intro rfl (And.intro rfl trivial)))
    · exact j_el (he1 _ _ H r_x2 (r64_t _)) (And.intro rfl (And.intro rfl trivial))
def F_X9_firstOpenOf_2  (t0 : Nat) (x1 : Int) (x2 : Int) (z : Z) (P : Int → Prop) : Prop :=
  lp (S := Int) (E := (Unit) ⊕ (Int × Int)) (fun q P_ => L_X9_firstOpenOf_2 t0 x1 q z P_) x2 (fun e => match e with | (.inl _) => P (-1) | (.inr (x2, x3)) => F_J13_numberOfTrailingZeros_95d88 x3 (fun x_36 => P (w32 (w32 (x2 * 64) + x_36))))
theorem T_X9_firstOpenOf_2  {t0 : Nat} {x1 : Int} {x2 : Int} {z : Z} {P : Int → Prop} (r_x1 : R32 x1) (r_x2 : R32 x2) (hw : Wz z)   (H : F_X9_firstOpenOf_2 t0 x1 x2 z P) : J mX9_firstOpenOf 5 0 0 (nx (QPI (cz z) P)) 2 [some (vr (some t0)), some (ii (x1)), some (ii (x2)), none, none] [] (cz z) := by
  unfold F_X9_firstOpenOf_2 at H
  refine lp_J (G := fun q => R32 (q) → J mX9_firstOpenOf 5 0 0 (nx (QPI (cz z) P)) 2 [some (vr (some t0)), some (ii (x1)), some (ii ((q))), none, none] [] (cz z)) (fun x2 P_ hl_ he_ Hb => ?_) x2 H r_x2
  intro r_x2
  refine U_X9_firstOpenOf_2 (P := P_) r_x1 r_x2 hw  (fun x2 Hp r_x2 => hl_ x2 Hp r_x2) ?_ ?_ Hb
  · intro Hp
    have H := he_ _ Hp
    refine j_iconst (v := Int32.ofInt (-1)) (dk dt_X9_firstOpenOf 32 rfl) (by decide) ?_
    exact j_ireturn (dk dt_X9_firstOpenOf 33 rfl) rfl rfl ⟨_, rfl, (by decide), rfl, H⟩
  · intro x2 x3 Hp r_x2 r_x3
    have H := he_ _ Hp
    refine j_iload_n (dk dt_X9_firstOpenOf 23 rfl) rfl ?_
    refine j_bipush (v := Int32.ofInt 64) (dk dt_X9_firstOpenOf 24 rfl) (by decide) ?_
    refine jz_imul (dk dt_X9_firstOpenOf 25 rfl) ?_
    refine j_lload_n (dk dt_X9_firstOpenOf 26 rfl) rfl ?_
    refine j_callS1 (dk dt_X9_firstOpenOf 27 rfl) sl_X9_155 (T_J13_numberOfTrailingZeros_95d88 r_x3 H) rfl (by decide) (Nat.zero_le _) (Nat.zero_le _) (Nat.le_of_ble_eq_true rfl) (fun v_36 h_36 P_36 => ?_)
    obtain ⟨x_36, rfl, r_36, rfl, H⟩ := P_36
    dsimp only [rs]
    refine jz_iadd (dk dt_X9_firstOpenOf 28 rfl) ?_
    exact j_ireturn (dk dt_X9_firstOpenOf 29 rfl) rfl rfl ⟨_, rfl, (r32_w _), rfl, H⟩
def F_X9_firstOpenOf  (t0 : Nat) (x1 : Int) (z : Z) (P : Int → Prop) : Prop :=
  F_X9_firstOpenOf_2 t0 x1 0 z P
theorem T_X9_firstOpenOf  {t0 : Nat} {x1 : Int} {z : Z} {P : Int → Prop} (r_x1 : R32 x1) (hw : Wz z)  (H : F_X9_firstOpenOf t0 x1 z P) : Con mX9_firstOpenOf 5 0 0 [vr (some t0), ii (x1)] (cz z) (QPI (cz z) P) := by
  refine con_of rfl (Nat.le_of_ble_eq_true rfl) (by decide) ?_
  show J mX9_firstOpenOf 5 0 0 _ 0 [some (vr (some t0)), some (ii (x1)), none, none, none] [] (cz z)
  unfold F_X9_firstOpenOf at H
  refine j_iconst (v := Int32.ofInt 0) (dk dt_X9_firstOpenOf 0 rfl) (by decide) ?_
  refine j_istore_n (dk dt_X9_firstOpenOf 1 rfl) (by decide) ?_
  exact j_el (T_X9_firstOpenOf_2 r_x1 (by decide) hw   H) (And.intro rfl (And.intro rfl (And.intro rfl trivial)))
def F_X9_isOpen_26  (s0 : Int) (z : Z) (P : Int → Prop) : Prop :=
  (Z1 s0 ∧ P s0)
theorem T_X9_isOpen_26  {s0 : Int} {z : Z} {P : Int → Prop} (r_s0 : R32 s0) (hw : Wz z)   (H : F_X9_isOpen_26 s0 z P) : J mX9_isOpen 1 0 0 (nx (QPI (cz z) P)) 26 [none, none] [ii (s0)] (cz z) := by
  unfold F_X9_isOpen_26 at H
  obtain ⟨hz_, H⟩ := H
  exact j_ireturn (dk dt_X9_isOpen 18 rfl) rfl (nar_z hz_) ⟨_, rfl, r_s0, rfl, H⟩
def F_X9_isOpen  (t0 : Nat) (x1 : Int) (z : Z) (P : Int → Prop) : Prop :=
  (zK z t0 = 10 ∧ (∃ a_8, zO z t0 5 = some a_8 ∧ zK z a_8 = 16 ∧ (0 ≤ w32 (Int.tdiv x1 64) ∧ w32 (Int.tdiv x1 64) < zN z a_8 ∧ (if lAnd (lShr (zG z a_8 (w32 (Int.tdiv x1 64))) (w32 (Int.tmod x1 64))) 1 = 0 then F_X9_isOpen_26 0 z P else F_X9_isOpen_26 1 z P))))
theorem T_X9_isOpen  {t0 : Nat} {x1 : Int} {z : Z} {P : Int → Prop} (r_x1 : R32 x1) (hw : Wz z)  (H : F_X9_isOpen t0 x1 z P) : Con mX9_isOpen 1 0 0 [vr (some t0), ii (x1)] (cz z) (QPI (cz z) P) := by
  refine con_of rfl (Nat.le_of_ble_eq_true rfl) (by decide) ?_
  show J mX9_isOpen 1 0 0 _ 0 [some (vr (some t0)), some (ii (x1))] [] (cz z)
  unfold F_X9_isOpen at H
  refine j_aload_n (dk dt_X9_isOpen 0 rfl) rfl ?_
  obtain ⟨k_1, H⟩ := H
  refine jz_getO (kz := 5) (dk dt_X9_isOpen 1 rfl) fl_X9_31 rfl rfl rfl k_1 ?_
  refine j_iload_n (dk dt_X9_isOpen 2 rfl) rfl ?_
  refine j_bipush (v := Int32.ofInt 64) (dk dt_X9_isOpen 3 rfl) (by decide) ?_
  refine jz_idiv (dk dt_X9_isOpen 4 rfl) r_x1 (by decide) (by decide) ?_
  obtain ⟨a_8, e_8, k_8, H⟩ := H
  obtain ⟨p_8, q_8, H⟩ := H
  refine jz_lald (dk dt_X9_isOpen 5 rfl) e_8 k_8 p_8 q_8 hw ?_
  refine j_iload_n (dk dt_X9_isOpen 6 rfl) rfl ?_
  refine j_bipush (v := Int32.ofInt 64) (dk dt_X9_isOpen 7 rfl) (by decide) ?_
  refine jz_irem (dk dt_X9_isOpen 8 rfl) r_x1 (by decide) (by decide) ?_
  refine jz_lshr (dk dt_X9_isOpen 9 rfl) ?_
  refine j_lconst (v := Int64.ofInt 1) (dk dt_X9_isOpen 10 rfl) (by decide) ?_
  refine jz_land (dk dt_X9_isOpen 11 rfl) ?_
  refine j_lconst (v := Int64.ofInt 0) (dk dt_X9_isOpen 12 rfl) (by decide) ?_
  refine jz_lcmp (dk dt_X9_isOpen 13 rfl) (r64_t _) (by decide) ?_
  refine jz_lif_eq 25 (dk dt_X9_isOpen 14 rfl) (by decide) H (fun H => ?_) (fun H => ?_)
  · refine j_iconst (v := Int32.ofInt 0) (dk dt_X9_isOpen 17 rfl) (by decide) ?_
    exact j_el (T_X9_isOpen_26 (by decide) hw   H) trivial
  · refine j_iconst (v := Int32.ofInt 1) (dk dt_X9_isOpen 15 rfl) (by decide) ?_
    refine j_goto 26 (dk dt_X9_isOpen 16 rfl) (by decide) ?_
    exact j_el (T_X9_isOpen_26 (by decide) hw   H) trivial
