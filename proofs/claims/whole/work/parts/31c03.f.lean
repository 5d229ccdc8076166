def F_X6_put_28  (z : Z) (P : Z → Prop) : Prop :=
  P z
theorem T_X6_put_28  {z : Z} {P : Z → Prop}  (hw : Wz z)   (H : F_X6_put_28 z P) : J mX6_put 2 0 0 (nx (QZV P)) 28 [none, none, none, none] [] (cz z) := by
  unfold F_X6_put_28 at H
  exact j_return (dk dt_X6_put 20 rfl) rfl ⟨_, rfl, rfl, hw, H⟩
def F_X6_put  (t0 : Nat) (x1 : Int) (x2 : Int) (x3 : Option Nat) (z : Z) (P : Z → Prop) : Prop :=
  (zK z t0 = 7 ∧ F_X6_has t0 x1 x2 z (fun x_3 => (if x_3 = 0 then F_X6_put_28 z P else (∃ a_20, zO z t0 1 = some a_20 ∧ zK z a_20 = 15 ∧ (∃ a_27, zO z t0 2 = some a_27 ∧ zK z a_27 = 19 ∧ (0 ≤ w32 ((w32 (w32 ((w32 (x1 - 1)) * (zN z a_20)) + x2)) - 1) ∧ w32 ((w32 (w32 ((w32 (x1 - 1)) * (zN z a_20)) + x2)) - 1) < zN z a_27 ∧ ((∀ v, x3 = some v → zK z v = 2) ∧ (∀ z_27, z_27 = wO z a_27 (w32 ((w32 (w32 ((w32 (x1 - 1)) * (zN z a_20)) + x2)) - 1)) x3 → F_X6_put_28 z_27 P))))))))
theorem T_X6_put  {t0 : Nat} {x1 : Int} {x2 : Int} {x3 : Option Nat} {z : Z} {P : Z → Prop} (r_x1 : R32 x1) (r_x2 : R32 x2) (hw : Wz z)  (H : F_X6_put t0 x1 x2 x3 z P) : Con mX6_put 2 0 0 [vr (some t0), ii (x1), ii (x2), vr (x3)] (cz z) (QZV P) := by
  refine con_of rfl (Nat.le_of_ble_eq_true rfl) (by decide) ?_
  show J mX6_put 2 0 0 _ 0 [some (vr (some t0)), some (ii (x1)), some (ii (x2)), some (vr (x3))] [] (cz z)
  unfold F_X6_put at H
  refine j_aload_n (dk dt_X6_put 0 rfl) rfl ?_
  refine j_iload_n (dk dt_X6_put 1 rfl) rfl ?_
  refine j_iload_n (dk dt_X6_put 2 rfl) rfl ?_
  obtain ⟨k_3, H⟩ := H
  refine jz_callV2 (dk dt_X6_put 3 rfl) vl_X6_24 rfl (T_X6_has r_x1 r_x2 hw H) k_3 rfl (by decide) (Nat.zero_le _) (Nat.zero_le _) (Nat.le_of_ble_eq_true rfl) (fun v_3 h_3 P_3 => ?_)
  obtain ⟨x_3, rfl, r_3, rfl, H⟩ := P_3
  dsimp only [rs]
  refine jz_if_eq 28 (dk dt_X6_put 4 rfl) (by decide) r_3 H (fun H => ?_) (fun H => ?_)
  · exact j_el (T_X6_put_28  hw   H) trivial
  · refine j_aload_n (dk dt_X6_put 5 rfl) rfl ?_
    refine jz_getO (kz := 2) (dk dt_X6_put 6 rfl) fl_X6_20 rfl rfl rfl k_3 ?_
    refine j_iload_n (dk dt_X6_put 7 rfl) rfl ?_
    refine j_iconst (v := Int32.ofInt 1) (dk dt_X6_put 8 rfl) (by decide) ?_
    refine jz_isub (dk dt_X6_put 9 rfl) ?_
    refine j_aload_n (dk dt_X6_put 10 rfl) rfl ?_
    refine jz_getO (kz := 1) (dk dt_X6_put 11 rfl) fl_X6_15 rfl rfl rfl k_3 ?_
    obtain ⟨a_20, e_20, k_20, H⟩ := H
    refine jz_alen (t := 1) (dk dt_X6_put 12 rfl) e_20 k_20 (by decide) hw ?_
    refine jz_imul (dk dt_X6_put 13 rfl) ?_
    refine j_iload_n (dk dt_X6_put 14 rfl) rfl ?_
    refine jz_iadd (dk dt_X6_put 15 rfl) ?_
    refine j_iconst (v := Int32.ofInt 1) (dk dt_X6_put 16 rfl) (by decide) ?_
    refine jz_isub (dk dt_X6_put 17 rfl) ?_
    refine j_aload_n (dk dt_X6_put 18 rfl) rfl ?_
    obtain ⟨a_27, e_27, k_27, H⟩ := H
    obtain ⟨p_27, q_27, H⟩ := H
    obtain ⟨v_27, H⟩ := H
    refine jz_aast (t := 5) (dk dt_X6_put 19 rfl) e_27 k_27 (by decide) (by decide) p_27 q_27 hw v_27 (fun w_27 => ?_)
    replace H := H _ rfl
    exact j_el (T_X6_put_28  w_27   H) trivial
def F_X6_init  (t0 : Nat) (x1 : Option Nat) (x2 : Option Nat) (z : Z) (c : Nat) (s : Nat) (P : Z → Prop) : Prop :=
  (zK z t0 = 7 ∧ (∀ z_6, z_6 = wO z t0 0 x1 → (∀ z_11, z_11 = wO z_6 t0 1 x2 → (∃ a_16, x1 = some a_16 ∧ zK z_11 a_16 = 15 ∧ (∃ a_18, x2 = some a_18 ∧ zK z_11 a_18 = 15 ∧ (0 ≤ w32 ((zN z_11 a_16) * (zN z_11 a_18)) ∧ w32 ((zN z_11 a_16) * (zN z_11 a_18)) < (33554432 : Int) ∧ 1 ≤ c ∧ Int.toNat (w32 ((zN z_11 a_16) * (zN z_11 a_18))) ≤ s ∧ ∀ a_20, zK z_11 a_20 = 0 → (∀ z_20, z_20 = nZ z_11 a_20 19 (w32 ((zN z_11 a_16) * (zN z_11 a_18))) → (zK z_20 t0 = 7 ∧ (∀ z_23, z_23 = wO z_20 t0 2 (some a_20) → P z_23)))))))))
theorem T_X6_init  {t0 : Nat} {x1 : Option Nat} {x2 : Option Nat} {z : Z} {c : Nat} {s : Nat} {P : Z → Prop}  (hw : Wz z)  (H : F_X6_init t0 x1 x2 z c s P) : Con mX6_init 4 c s [vr (some t0), vr (x1), vr (x2)] (cz z) (QZV P) := by
  refine con_of rfl (Nat.le_of_ble_eq_true rfl) (by decide) ?_
  show J mX6_init 4 c s _ 0 [some (vr (some t0)), some (vr (x1)), some (vr (x2))] [] (cz z)
  unfold F_X6_init at H
  refine j_aload_n (dk dt_X6_init 0 rfl) rfl ?_
  refine j_objInit (dk dt_X6_init 1 rfl) ol_X6_3 ob_1 ob_2 (by decide) (Nat.le_of_ble_eq_true rfl) ?_
  refine j_aload_n (dk dt_X6_init 2 rfl) rfl ?_
  refine j_aload_n (dk dt_X6_init 3 rfl) rfl ?_
  obtain ⟨k_6, H⟩ := H
  refine jz_putOF (kz := 0) (dk dt_X6_init 4 rfl) fl_X6_9 rfl (fun _ _ q => by cases q; rfl) rfl rfl rfl k_6 hw (fun w_6 => ?_)
  replace H := H _ rfl
  refine j_aload_n (dk dt_X6_init 5 rfl) rfl ?_
  refine j_aload_n (dk dt_X6_init 6 rfl) rfl ?_
  refine jz_putOF (kz := 1) (dk dt_X6_init 7 rfl) fl_X6_15 rfl (fun _ _ q => by cases q; rfl) rfl rfl rfl k_6 w_6 (fun w_11 => ?_)
  replace H := H _ rfl
  refine j_aload_n (dk dt_X6_init 8 rfl) rfl ?_
  refine j_aload_n (dk dt_X6_init 9 rfl) rfl ?_
  obtain ⟨a_16, e_16, k_16, H⟩ := H
  refine jz_alen (t := 1) (dk dt_X6_init 10 rfl) e_16 k_16 (by decide) w_11 ?_
  refine j_aload_n (dk dt_X6_init 11 rfl) rfl ?_
  obtain ⟨a_18, e_18, k_18, H⟩ := H
  refine jz_alen (t := 1) (dk dt_X6_init 12 rfl) e_18 k_18 (by decide) w_11 ?_
  refine jz_imul (dk dt_X6_init 13 rfl) ?_
  obtain ⟨p_20, q_20, hc_20, hs_20, H⟩ := H
  refine jz_newQ (t := 5) (dk dt_X6_init 14 rfl) nl_X6_18 ao_1 (by decide) (fun _ => rfl) p_20 q_20 hc_20 hs_20 w_11 (fun a_20 e_20 w_20 => ?_)
  replace H := H a_20 e_20
  replace H := H _ rfl
  obtain ⟨k_23, H⟩ := H
  refine jz_putOF (kz := 2) (dk dt_X6_init 15 rfl) fl_X6_20 rfl (fun _ _ q => by cases q; rfl) rfl rfl rfl k_23 w_20 (fun w_23 => ?_)
  replace H := H _ rfl
  exact j_return (dk dt_X6_init 16 rfl) rfl ⟨_, rfl, rfl, w_23, H⟩
def F_X6_shapedAlong_112  (t0 : Nat) (x1 : Int) (x2 : Option Nat) (x3 : Option Nat) (x4 : Int) (x5 : Int) (x6 : Int) (z : Z) (c : Nat) (s : Nat) (P : (Int × Z) ⊕ ((Z)) → Prop) : Prop :=
  P (.inl (w32 (x6 + 1), z))
theorem T_X6_shapedAlong_112  {t0 : Nat} {x1 : Int} {x2 : Option Nat} {x3 : Option Nat} {x4 : Int} {x5 : Int} {x6 : Int} {z : Z} {c : Nat} {s : Nat} {P : (Int × Z) ⊕ ((Z)) → Prop} {post : Option Sv ⊕ String → Hp → Prop} (r_x1 : R32 x1) (r_x4 : R32 x4) (r_x5 : R32 x5) (r_x6 : R32 x6) (hw : Wz z)  (hl : ∀ (x6 : Int) (z : Z), P (.inl (x6, z)) → Wz z → R32 x6 → J mX6_shapedAlong 5 c s post 56 [some (vr (some t0)), some (ii (x1)), some (vr (x2)), some (vr (x3)), some (ii (x4)), some (ii (x5)), some (ii (x6))] [] (cz z)) (he0 : ∀ (z : Z), P (.inr z) → Wz z → J mX6_shapedAlong 5 c s post 118 [some (vr (some t0)), some (ii (x1)), some (vr (x2)), some (vr (x3)), some (ii (x4)), none, none] [] (cz z)) (H : F_X6_shapedAlong_112 t0 x1 x2 x3 x4 x5 x6 z c s P) : J mX6_shapedAlong 5 c s (post) 112 [some (vr (some t0)), some (ii (x1)), some (vr (x2)), some (vr (x3)), some (ii (x4)), some (ii (x5)), some (ii (x6))] [] (cz z) := by
  unfold F_X6_shapedAlong_112 at H
  refine jz_iinc (dk dt_X6_shapedAlong 62 rfl) rfl ?_
  refine j_goto 56 (dk dt_X6_shapedAlong 63 rfl) (by decide) ?_
  exact j_el (hl _ _ H hw (r32_w _)) (And.intro rfl (And.intro rfl (And.intro rfl (And.intro rfl (And.intro rfl (And.intro rfl (And.intro rfl trivial)))))))
def L_X6_shapedAlong_56  (t0 : Nat) (x1 : Int) (x2 : Option Nat) (x3 : Option Nat) (x4 : Int) (x5 : Int) (x6 : Int) (z : Z) (c : Nat) (s : Nat) (P : (Int × Z) ⊕ ((Z)) → Prop) : Prop :=
  (zK z t0 = 7 ∧ F_X6_line t0 (w32 (1 - x1)) z (fun x_62 => (∃ a_65, x_62 = some a_65 ∧ zK z a_65 = 15 ∧ (if zN z a_65 < x6 then P (.inr z) else (if x1 = 0 then F_X6_at t0 x5 x6 z (fun x_85 => (∃ a_88, x3 = some a_88 ∧ zK z a_88 = 7 ∧ F_X6_put a_88 (w32 (x4 + 1)) x6 x_85 z (fun z_88 => F_X6_shapedAlong_112 t0 x1 x2 x3 x4 x5 x6 z_88 c s P))) else F_X6_at t0 x6 x5 z (fun x_106 => (∃ a_109, x3 = some a_109 ∧ zK z a_109 = 7 ∧ F_X6_put a_109 x6 (w32 (x4 + 1)) x_106 z (fun z_109 => F_X6_shapedAlong_112 t0 x1 x2 x3 x4 x5 x6 z_109 c s P))))))))
theorem U_X6_shapedAlong_56  {t0 : Nat} {x1 : Int} {x2 : Option Nat} {x3 : Option Nat} {x4 : Int} {x5 : Int} {x6 : Int} {z : Z} {c : Nat} {s : Nat} {P : (Int × Z) ⊕ ((Z)) → Prop} {post : Option Sv ⊕ String → Hp → Prop} (r_x1 : R32 x1) (r_x4 : R32 x4) (r_x5 : R32 x5) (r_x6 : R32 x6) (hw : Wz z)  (hl : ∀ (x6 : Int) (z : Z), P (.inl (x6, z)) → Wz z → R32 x6 → J mX6_shapedAlong 5 c s post 56 [some (vr (some t0)), some (ii (x1)), some (vr (x2)), some (vr (x3)), some (ii (x4)), some (ii (x5)), some (ii (x6))] [] (cz z)) (he0 : ∀ (z : Z), P (.inr z) → Wz z → J mX6_shapedAlong 5 c s post 118 [some (vr (some t0)), some (ii (x1)), some (vr (x2)), some (vr (x3)), some (ii (x4)), none, none] [] (cz z)) (H : L_X6_shapedAlong_56 t0 x1 x2 x3 x4 x5 x6 z c s P) : J mX6_shapedAlong 5 c s post 56 [some (vr (some t0)), some (ii (x1)), some (vr (x2)), some (vr (x3)), some (ii (x4)), some (ii (x5)), some (ii (x6))] [] (cz z) := by
  unfold L_X6_shapedAlong_56 at H
  refine j_iload (dk dt_X6_shapedAlong 31 rfl) rfl ?_
  refine j_aload_n (dk dt_X6_shapedAlong 32 rfl) rfl ?_
  refine j_iconst (v := Int32.ofInt 1) (dk dt_X6_shapedAlong 33 rfl) (by decide) ?_
  refine j_iload_n (dk dt_X6_shapedAlong 34 rfl) rfl ?_
  refine jz_isub (dk dt_X6_shapedAlong 35 rfl) ?_
  obtain ⟨k_62, H⟩ := H
  refine jz_callV1 (dk dt_X6_shapedAlong 36 rfl) vl_X6_36 rfl (T_X6_line (r32_w _) hw H) k_62 rfl (by decide) (Nat.zero_le _) (Nat.zero_le _) (Nat.le_of_ble_eq_true rfl) (fun v_62 h_62 P_62 => ?_)
  obtain ⟨x_62, rfl, rfl, H⟩ := P_62
  dsimp only [rs]
  obtain ⟨a_65, e_65, k_65, H⟩ := H
  refine jz_alen (t := 1) (dk dt_X6_shapedAlong 37 rfl) e_65 k_65 (by decide) hw ?_
  refine jz_icmp_gt 118 (dk dt_X6_shapedAlong 38 rfl) (by decide) r_x6 (r32_len hw _) H (fun H => ?_) (fun H => ?_)
  · exact j_el (he0 _ H hw) (And.intro rfl (And.intro rfl (And.intro rfl (And.intro rfl (And.intro rfl trivial)))))
  · refine j_iload_n (dk dt_X6_shapedAlong 39 rfl) rfl ?_
    refine jz_if_ne 94 (dk dt_X6_shapedAlong 40 rfl) (by decide) r_x1 H (fun H => ?_) (fun H => ?_)
    · refine j_aload_n (dk dt_X6_shapedAlong 41 rfl) rfl ?_
      refine j_iload (dk dt_X6_shapedAlong 42 rfl) rfl ?_
      refine j_iconst (v := Int32.ofInt 1) (dk dt_X6_shapedAlong 43 rfl) (by decide) ?_
      refine jz_iadd (dk dt_X6_shapedAlong 44 rfl) ?_
      refine j_iload (dk dt_X6_shapedAlong 45 rfl) rfl ?_
      refine j_aload_n (dk dt_X6_shapedAlong 46 rfl) rfl ?_
      refine j_iload (dk dt_X6_shapedAlong 47 rfl) rfl ?_
      refine j_iload (dk dt_X6_shapedAlong 48 rfl) rfl ?_
      refine jz_callV2 (dk dt_X6_shapedAlong 49 rfl) vl_X6_32 rfl (T_X6_at r_x5 r_x6 hw H) k_62 rfl (by decide) (Nat.zero_le _) (Nat.zero_le _) (Nat.le_of_ble_eq_true rfl) (fun v_85 h_85 P_85 => ?_)
      obtain ⟨x_85, rfl, rfl, H⟩ := P_85
      dsimp only [rs]
      obtain ⟨a_88, e_88, k_88, H⟩ := H
      refine jz_callV3 (dk dt_X6_shapedAlong 50 rfl) vl_X6_43 e_88 (T_X6_put (r32_w _) r_x6 hw H) k_88 rfl (by decide) (Nat.zero_le _) (Nat.zero_le _) (Nat.le_of_ble_eq_true rfl) (fun v_88 h_88 P_88 => ?_)
      obtain ⟨z_88, rfl, rfl, w_88, H⟩ := P_88
      dsimp only [rs]
      refine j_goto 112 (dk dt_X6_shapedAlong 51 rfl) (by decide) ?_
      exact j_el (T_X6_shapedAlong_112 r_x1 r_x4 r_x5 r_x6 w_88  hl he0 H) (And.intro rfl (And.intro rfl (And.intro rfl (And.intro rfl (And.intro rfl (And.intro rfl (And.intro rfl trivial)))))))
    · refine j_aload_n (dk dt_X6_shapedAlong 52 rfl) rfl ?_
      refine j_iload (dk dt_X6_shapedAlong 53 rfl) rfl ?_
      refine j_iload (dk dt_X6_shapedAlong 54 rfl) rfl ?_
      refine j_iconst (v := Int32.ofInt 1) (dk dt_X6_shapedAlong 55 rfl) (by decide) ?_
      refine jz_iadd (dk dt_X6_shapedAlong 56 rfl) ?_
      refine j_aload_n (dk dt_X6_shapedAlong 57 rfl) rfl ?_
      refine j_iload (dk dt_X6_shapedAlong 58 rfl) rfl ?_
      refine j_iload (dk dt_X6_shapedAlong 59 rfl) rfl ?_
      refine jz_callV2 (dk dt_X6_shapedAlong 60 rfl) vl_X6_32 rfl (T_X6_at r_x6 r_x5 hw H) k_62 rfl (by decide) (Nat.zero_le _) (Nat.zero_le _) (Nat.le_of_ble_eq_true rfl) (fun v_106 h_106 P_106 => ?_)
      obtain ⟨x_106, rfl, rfl, H⟩ := P_106
      dsimp only [rs]
      obtain ⟨a_109, e_109, k_109, H⟩ := H
      refine jz_callV3 (dk dt_X6_shapedAlong 61 rfl) vl_X6_43 e_109 (T_X6_put r_x6 (r32_w _) hw H) k_109 rfl (by decide) (Nat.zero_le _) (Nat.zero_le _) (Nat.le_of_ble_eq_true rfl) (fun v_109 h_109 P_109 => ?_)
      obtain ⟨z_109, rfl, rfl, w_109, H⟩ := P_109
      dsimp only [rs]
      exact j_el (T_X6_shapedAlong_112 r_x1 r_x4 r_x5 r_x6 w_109  hl he0 H) (And.intro rfl (And.intro rfl (And.intro rfl (And.intro rfl (And.intro rfl (And.intro rfl (And.intro rfl trivial)))))))
def F_X6_shapedAlong_56  (t0 : Nat) (x1 : Int) (x2 : Option Nat) (x3 : Option Nat) (x4 : Int) (x5 : Int) (x6 : Int) (z : Z) (c : Nat) (s : Nat) (P : (Int × Z) ⊕ ((Z)) → Prop) : Prop :=
  lp (S := Int × Z) (E := (Z)) (fun q P_ => L_X6_shapedAlong_56 t0 x1 x2 x3 x4 x5 q.1 q.2 c s P_) (x6, z) (fun (z : Z) => P (.inl (w32 (x4 + 1), z)))
theorem T_X6_shapedAlong_56  {t0 : Nat} {x1 : Int} {x2 : Option Nat} {x3 : Option Nat} {x4 : Int} {x5 : Int} {x6 : Int} {z : Z} {c : Nat} {s : Nat} {P : (Int × Z) ⊕ ((Z)) → Prop} {post : Option Sv ⊕ String → Hp → Prop} (r_x1 : R32 x1) (r_x4 : R32 x4) (r_x5 : R32 x5) (r_x6 : R32 x6) (hw : Wz z)  (hl : ∀ (x4 : Int) (z : Z), P (.inl (x4, z)) → Wz z → R32 x4 → J mX6_shapedAlong 5 c s post 35 [some (vr (some t0)), some (ii (x1)), some (vr (x2)), some (vr (x3)), some (ii (x4)), none, none] [] (cz z)) (he0 : ∀ (z : Z), P (.inr z) → Wz z → J mX6_shapedAlong 5 c s post 124 [none, none, none, some (vr (x3)), none, none, none] [] (cz z)) (H : F_X6_shapedAlong_56 t0 x1 x2 x3 x4 x5 x6 z c s P) : J mX6_shapedAlong 5 c s (post) 56 [some (vr (some t0)), some (ii (x1)), some (vr (x2)), some (vr (x3)), some (ii (x4)), some (ii (x5)), some (ii (x6))] [] (cz z) := by
  unfold F_X6_shapedAlong_56 at H
  refine lp_J (G := fun q => Wz (q.2) → R32 (q.1) → J mX6_shapedAlong 5 c s (post) 56 [some (vr (some t0)), some (ii (x1)), some (vr (x2)), some (vr (x3)), some (ii (x4)), some (ii (x5)), some (ii ((q.1)))] [] (cz (q.2))) (fun q P_ hl_ he_ Hb => ?_) (x6, z) H hw r_x6
  obtain ⟨x6, z⟩ := q
  intro hw r_x6
  refine U_X6_shapedAlong_56 (P := P_) r_x1 r_x4 r_x5 r_x6 hw  (fun x6 z Hp hw r_x6 => hl_ (x6, z) Hp hw r_x6) ?_ Hb
  · intro z Hp hw
    have H := he_ _ Hp
    refine jz_iinc (dk dt_X6_shapedAlong 64 rfl) rfl ?_
    refine j_goto 35 (dk dt_X6_shapedAlong 65 rfl) (by decide) ?_
    exact j_el (hl _ _ H hw (r32_w _)) (And.intro rfl (And.intro rfl (And.intro rfl (And.intro rfl (And.intro rfl trivial)))))
def L_X6_shapedAlong_35  (t0 : Nat) (x1 : Int) (x2 : Option Nat) (x3 : Option Nat) (x4 : Int) (z : Z) (c : Nat) (s : Nat) (P : (Int × Z) ⊕ ((Z)) → Prop) : Prop :=
  (∃ a_38, x2 = some a_38 ∧ zK z a_38 = 15 ∧ (if zN z a_38 ≤ x4 then P (.inr z) else (0 ≤ x4 ∧ x4 < zN z a_38 ∧ (zK z t0 = 7 ∧ F_X6_placeOf t0 x1 (zI z a_38 x4) z (fun x_48 => F_X6_shapedAlong_56 t0 x1 x2 x3 x4 x_48 1 z c s P)))))
theorem U_X6_shapedAlong_35  {t0 : Nat} {x1 : Int} {x2 : Option Nat} {x3 : Option Nat} {x4 : Int} {z : Z} {c : Nat} {s : Nat} {P : (Int × Z) ⊕ ((Z)) → Prop} {post : Option Sv ⊕ String → Hp → Prop} (r_x1 : R32 x1) (r_x4 : R32 x4) (hw : Wz z)  (hl : ∀ (x4 : Int) (z : Z), P (.inl (x4, z)) → Wz z → R32 x4 → J mX6_shapedAlong 5 c s post 35 [some (vr (some t0)), some (ii (x1)), some (vr (x2)), some (vr (x3)), some (ii (x4)), none, none] [] (cz z)) (he0 : ∀ (z : Z), P (.inr z) → Wz z → J mX6_shapedAlong 5 c s post 124 [none, none, none, some (vr (x3)), none, none, none] [] (cz z)) (H : L_X6_shapedAlong_35 t0 x1 x2 x3 x4 z c s P) : J mX6_shapedAlong 5 c s post 35 [some (vr (some t0)), some (ii (x1)), some (vr (x2)), some (vr (x3)), some (ii (x4)), none, none] [] (cz z) := by
  unfold L_X6_shapedAlong_35 at H
  refine j_iload (dk dt_X6_shapedAlong 18 rfl) rfl ?_
  refine j_aload_n (dk dt_X6_shapedAlong 19 rfl) rfl ?_
  obtain ⟨a_38, e_38, k_38, H⟩ := H
  refine jz_alen (t := 1) (dk dt_X6_shapedAlong 20 rfl) e_38 k_38 (by decide) hw ?_
  refine jz_icmp_ge 124 (dk dt_X6_shapedAlong 21 rfl) (by decide) r_x4 (r32_len hw _) H (fun H => ?_) (fun H => ?_)
  · exact j_el (he0 _ H hw) (And.intro rfl trivial)
  · refine j_aload_n (dk dt_X6_shapedAlong 22 rfl) rfl ?_
    refine j_iload_n (dk dt_X6_shapedAlong 23 rfl) rfl ?_
    refine j_aload_n (dk dt_X6_shapedAlong 24 rfl) rfl ?_
    refine j_iload (dk dt_X6_shapedAlong 25 rfl) rfl ?_
    obtain ⟨p_47, q_47, H⟩ := H
    refine jz_iald (dk dt_X6_shapedAlong 26 rfl) e_38 k_38 p_47 q_47 hw ?_
    obtain ⟨k_48, H⟩ := H
    refine jz_callV2 (dk dt_X6_shapedAlong 27 rfl) vl_X6_28 rfl (T_X6_placeOf r_x1 (hw.1 _ _) hw H) k_48 rfl (by decide) (Nat.zero_le _) (Nat.zero_le _) (Nat.le_of_ble_eq_true rfl) (fun v_48 h_48 P_48 => ?_)
    obtain ⟨x_48, rfl, r_48, rfl, H⟩ := P_48
    dsimp only [rs]
    refine j_istore (dk dt_X6_shapedAlong 28 rfl) (by decide) ?_
    refine j_iconst (v := Int32.ofInt 1) (dk dt_X6_shapedAlong 29 rfl) (by decide) ?_
    refine j_istore (dk dt_X6_shapedAlong 30 rfl) (by decide) ?_
    exact j_el (T_X6_shapedAlong_56 r_x1 r_x4 r_48 (by decide) hw  hl he0 H) (And.intro rfl (And.intro rfl (And.intro rfl (And.intro rfl (And.intro rfl (And.intro rfl (And.intro rfl trivial)))))))
def F_X6_shapedAlong_35  (t0 : Nat) (x1 : Int) (x2 : Option Nat) (x3 : Option Nat) (x4 : Int) (z : Z) (c : Nat) (s : Nat) (P : Option Nat → Z → Prop) : Prop :=
  lp (S := Int × Z) (E := (Z)) (fun q P_ => L_X6_shapedAlong_35 t0 x1 x2 x3 q.1 q.2 c s P_) (x4, z) (fun (z : Z) => P x3 z)
theorem T_X6_shapedAlong_35  {t0 : Nat} {x1 : Int} {x2 : Option Nat} {x3 : Option Nat} {x4 : Int} {z : Z} {c : Nat} {s : Nat} {P : Option Nat → Z → Prop} (r_x1 : R32 x1) (r_x4 : R32 x4) (hw : Wz z)   (H : F_X6_shapedAlong_35 t0 x1 x2 x3 x4 z c s P) : J mX6_shapedAlong 5 c s (nx (QZA P)) 35 [some (vr (some t0)), some (ii (x1)), some (vr (x2)), some (vr (x3)), some (ii (x4)), none, none] [] (cz z) := by
  unfold F_X6_shapedAlong_35 at H
  refine lp_J (G := fun q => Wz (q.2) → R32 (q.1) → J mX6_shapedAlong 5 c s (nx (QZA P)) 35 [some (vr (some t0)), some (ii (x1)), some (vr (x2)), some (vr (x3)), some (ii ((q.1))), none, none] [] (cz (q.2))) (fun q P_ hl_ he_ Hb => ?_) (x4, z) H hw r_x4
  obtain ⟨x4, z⟩ := q
  intro hw r_x4
  refine U_X6_shapedAlong_35 (P := P_) r_x1 r_x4 hw  (fun x4 z Hp hw r_x4 => hl_ (x4, z) Hp hw r_x4) ?_ Hb
  · intro z Hp hw
    have H := he_ _ Hp
    refine j_aload_n (dk dt_X6_shapedAlong 66 rfl) rfl ?_
    exact j_areturn (dk dt_X6_shapedAlong 67 rfl) rfl rfl ⟨_, _, rfl, rfl, hw, H⟩
def F_X6_shapedAlong_28  (t0 : Nat) (x1 : Int) (x2 : Option Nat) (s0 : Option Nat) (s1 : Option Nat) (s2 : Option Nat) (s3 : Option Nat) (z : Z) (c : Nat) (s : Nat) (P : Option Nat → Z → Prop) : Prop :=
  (∃ a_28, s1 = some a_28 ∧ zK z a_28 = 7 ∧ (∃ c_28 s_28, c_28 ≤ c ∧ s_28 ≤ s ∧ F_X6_init a_28 s2 s3 z c_28 s_28 (fun z_28 => F_X6_shapedAlong_35 t0 x1 x2 s0 0 z_28 (c - c_28) (s - s_28) P)))
theorem T_X6_shapedAlong_28  {t0 : Nat} {x1 : Int} {x2 : Option Nat} {s0 : Option Nat} {s1 : Option Nat} {s2 : Option Nat} {s3 : Option Nat} {z : Z} {c : Nat} {s : Nat} {P : Option Nat → Z → Prop} (r_x1 : R32 x1) (hw : Wz z)   (H : F_X6_shapedAlong_28 t0 x1 x2 s0 s1 s2 s3 z c s P) : J mX6_shapedAlong 5 c s (nx (QZA P)) 28 [some (vr (some t0)), some (ii (x1)), some (vr (x2)), none, none, none, none] [vr (s3), vr (s2), vr (s1), vr (s0)] (cz z) := by
  unfold F_X6_shapedAlong_28 at H
  obtain ⟨a_28, e_28, k_28, H⟩ := H
  obtain ⟨c_28, s_28, hc_28, hs_28, H⟩ := H
  refine jz_callI2 (dk dt_X6_shapedAlong 14 rfl) il_X6_40 e_28 (T_X6_init hw H) rfl (by decide) hc_28 hs_28 (Nat.le_of_ble_eq_true rfl) (fun v_28 h_28 P_28 => ?_)
  obtain ⟨z_28, rfl, rfl, w_28, H⟩ := P_28
  dsimp only [rs]
  refine j_astore_n (dk dt_X6_shapedAlong 15 rfl) (by decide) ?_
  refine j_iconst (v := Int32.ofInt 0) (dk dt_X6_shapedAlong 16 rfl) (by decide) ?_
  refine j_istore (dk dt_X6_shapedAlong 17 rfl) (by decide) ?_
  exact j_el (T_X6_shapedAlong_35 r_x1 (by decide) w_28   H) (And.intro rfl (And.intro rfl (And.intro rfl (And.intro rfl (And.intro rfl trivial)))))
def F_X6_shapedAlong_16  (t0 : Nat) (x1 : Int) (x2 : Option Nat) (s0 : Option Nat) (s1 : Option Nat) (s2 : Option Nat) (z : Z) (c : Nat) (s : Nat) (P : Option Nat → Z → Prop) : Prop :=
  (if x1 = 0 then (zK z t0 = 7 ∧ F_X6_shapedAlong_28 t0 x1 x2 s0 s1 s2 (zO z t0 1) z c s P) else F_X6_shapedAlong_28 t0 x1 x2 s0 s1 s2 x2 z c s P)
theorem T_X6_shapedAlong_16  {t0 : Nat} {x1 : Int} {x2 : Option Nat} {s0 : Option Nat} {s1 : Option Nat} {s2 : Option Nat} {z : Z} {c : Nat} {s : Nat} {P : Option Nat → Z → Prop} (r_x1 : R32 x1) (hw : Wz z)   (H : F_X6_shapedAlong_16 t0 x1 x2 s0 s1 s2 z c s P) : J mX6_shapedAlong 5 c s (nx (QZA P)) 16 [some (vr (some t0)), some (ii (x1)), some (vr (x2)), none, none, none, none] [vr (s2), vr (s1), vr (s0)] (cz z) := by
  unfold F_X6_shapedAlong_16 at H
  refine j_iload_n (dk dt_X6_shapedAlong 8 rfl) rfl ?_
  refine jz_if_ne 27 (dk dt_X6_shapedAlong 9 rfl) (by decide) r_x1 H (fun H => ?_) (fun H => ?_)
  · refine j_aload_n (dk dt_X6_shapedAlong 10 rfl) rfl ?_
    obtain ⟨k_21, H⟩ := H
    refine jz_getO (kz := 1) (dk dt_X6_shapedAlong 11 rfl) fl_X6_15 rfl rfl rfl k_21 ?_
    refine j_goto 28 (dk dt_X6_shapedAlong 12 rfl) (by decide) ?_
    exact j_el (T_X6_shapedAlong_28 r_x1 hw   H) (And.intro rfl (And.intro rfl (And.intro rfl trivial)))
  · refine j_aload_n (dk dt_X6_shapedAlong 13 rfl) rfl ?_
    exact j_el (T_X6_shapedAlong_28 r_x1 hw   H) (And.intro rfl (And.intro rfl (And.intro rfl trivial)))
def F_X6_shapedAlong  (t0 : Nat) (x1 : Int) (x2 : Option Nat) (z : Z) (c : Nat) (s : Nat) (P : Option Nat → Z → Prop) : Prop :=
  (1 ≤ c ∧ 4 ≤ s ∧ ∀ a_0, zK z a_0 = 0 → (∀ z_0, z_0 = nZ z a_0 7 0 → (if x1 = 0 then F_X6_shapedAlong_16 t0 x1 x2 (some a_0) (some a_0) x2 z_0 (c - 1) (s - 4) P else (zK z_0 t0 = 7 ∧ F_X6_shapedAlong_16 t0 x1 x2 (some a_0) (some a_0) (zO z_0 t0 0) z_0 (c - 1) (s - 4) P))))
theorem T_X6_shapedAlong  {t0 : Nat} {x1 : Int} {x2 : Option Nat} {z : Z} {c : Nat} {s : Nat} {P : Option Nat → Z → Prop} (r_x1 : R32 x1) (hw : Wz z)  (H : F_X6_shapedAlong t0 x1 x2 z c s P) : Con mX6_shapedAlong 5 c s [vr (some t0), ii (x1), vr (x2)] (cz z) (QZA P) := by
  refine con_of rfl (Nat.le_of_ble_eq_true rfl) (by decide) ?_
  show J mX6_shapedAlong 5 c s _ 0 [some (vr (some t0)), some (ii (x1)), some (vr (x2)), none, none, none, none] [] (cz z)
  unfold F_X6_shapedAlong at H
  obtain ⟨hc_0, hs_0, H⟩ := H
  refine jz_new (dk dt_X6_shapedAlong 0 rfl) cl_6 nl_X6_10 iw_6 zw_6 rfl hc_0 hs_0 hw (fun a_0 e_0 w_0 => ?_)
  replace H := H a_0 e_0
  replace H := H _ rfl
  refine j_dup (dk dt_X6_shapedAlong 1 rfl) rfl ?_
  refine j_iload_n (dk dt_X6_shapedAlong 2 rfl) rfl ?_
  refine jz_if_ne 12 (dk dt_X6_shapedAlong 3 rfl) (by decide) r_x1 H (fun H => ?_) (fun H => ?_)
  · refine j_aload_n (dk dt_X6_shapedAlong 4 rfl) rfl ?_
    refine j_goto 16 (dk dt_X6_shapedAlong 5 rfl) (by decide) ?_
    exact j_el (T_X6_shapedAlong_16 r_x1 w_0   H) (And.intro rfl (And.intro rfl (And.intro rfl trivial)))
  · refine j_aload_n (dk dt_X6_shapedAlong 6 rfl) rfl ?_
    obtain ⟨k_13, H⟩ := H
    refine jz_getO (kz := 0) (dk dt_X6_shapedAlong 7 rfl) fl_X6_9 rfl rfl rfl k_13 ?_
    exact j_el (T_X6_shapedAlong_16 r_x1 w_0   H) (And.intro rfl (And.intro rfl (And.intro rfl trivial)))
def L_X6_twin_18  (t0 : Nat) (x1 : Option Nat) (x2 : Int) (z : Z) (c : Nat) (s : Nat) (P : (Int × Z) ⊕ ((Z)) → Prop) : Prop :=
  (zK z t0 = 7 ∧ (∃ a_23, zO z t0 2 = some a_23 ∧ zK z a_23 = 19 ∧ (if zN z a_23 ≤ x2 then P (.inr z) else (∃ a_28, x1 = some a_28 ∧ zK z a_28 = 7 ∧ (0 ≤ x2 ∧ x2 < zN z a_23 ∧ (∃ a_38, zO z a_28 2 = some a_38 ∧ zK z a_38 = 19 ∧ (0 ≤ x2 ∧ x2 < zN z a_38 ∧ ((∀ v, zO z a_23 x2 = some v → zK z v = 2) ∧ (∀ z_38, z_38 = wO z a_38 x2 (zO z a_23 x2) → P (.inl (w32 (x2 + 1), z_38)))))))))))
theorem U_X6_twin_18  {t0 : Nat} {x1 : Option Nat} {x2 : Int} {z : Z} {c : Nat} {s : Nat} {P : (Int × Z) ⊕ ((Z)) → Prop} {post : Option Sv ⊕ String → Hp → Prop} (r_x2 : R32 x2) (hw : Wz z)  (hl : ∀ (x2 : Int) (z : Z), P (.inl (x2, z)) → Wz z → R32 x2 → J mX6_twin 5 c s post 18 [some (vr (some t0)), some (vr (x1)), some (ii (x2))] [] (cz z)) (he0 : ∀ (z : Z), P (.inr z) → Wz z → J mX6_twin 5 c s post 45 [none, some (vr (x1)), none] [] (cz z)) (H : L_X6_twin_18 t0 x1 x2 z c s P) : J mX6_twin 5 c s post 18 [some (vr (some t0)), some (vr (x1)), some (ii (x2))] [] (cz z) := by
  unfold L_X6_twin_18 at H
  refine j_iload_n (dk dt_X6_twin 10 rfl) rfl ?_
  refine j_aload_n (dk dt_X6_twin 11 rfl) rfl ?_
  obtain ⟨k_20, H⟩ := H
  refine jz_getO (kz := 2) (dk dt_X6_twin 12 rfl) fl_X6_20 rfl rfl rfl k_20 ?_
  obtain ⟨a_23, e_23, k_23, H⟩ := H
  refine jz_alen (t := 5) (dk dt_X6_twin 13 rfl) e_23 k_23 (by decide) hw ?_
  refine jz_icmp_ge 45 (dk dt_X6_twin 14 rfl) (by decide) r_x2 (r32_len hw _) H (fun H => ?_) (fun H => ?_)
  · exact j_el (he0 _ H hw) (And.intro rfl trivial)
  · refine j_aload_n (dk dt_X6_twin 15 rfl) rfl ?_
    obtain ⟨a_28, e_28, k_28, H⟩ := H
    refine jz_getO (kz := 2) (dk dt_X6_twin 16 rfl) fl_X6_20 rfl rfl e_28 k_28 ?_
    refine j_iload_n (dk dt_X6_twin 17 rfl) rfl ?_
    refine j_aload_n (dk dt_X6_twin 18 rfl) rfl ?_
    refine jz_getO (kz := 2) (dk dt_X6_twin 19 rfl) fl_X6_20 rfl rfl rfl k_20 ?_
    refine j_iload_n (dk dt_X6_twin 20 rfl) rfl ?_
    obtain ⟨p_37, q_37, H⟩ := H
    refine jz_aald (t := 5) (dk dt_X6_twin 21 rfl) e_23 k_23 (by decide) (by decide) p_37 q_37 hw ?_
    obtain ⟨a_38, e_38, k_38, H⟩ := H
    obtain ⟨p_38, q_38, H⟩ := H
    obtain ⟨v_38, H⟩ := H
    refine jz_aast (t := 5) (dk dt_X6_twin 22 rfl) e_38 k_38 (by decide) (by decide) p_38 q_38 hw v_38 (fun w_38 => ?_)
    replace H := H _ rfl
    refine jz_iinc (dk dt_X6_twin 23 rfl) rfl ?_
    refine j_goto 18 (dk dt_X6_twin 24 rfl) (by decide) ?_
    exact j_el (hl _ _ H w_38 (r32_w _)) (And.intro rfl (And.intro rfl (And.intro rfl trivial)))
def F_X6_twin_18  (t0 : Nat) (x1 : Option Nat) (x2 : Int) (z : Z) (c : Nat) (s : Nat) (P : Option Nat → Z → Prop) : Prop :=
  lp (S := Int × Z) (E := (Z)) (fun q P_ => L_X6_twin_18 t0 x1 q.1 q.2 c s P_) (x2, z) (fun (z : Z) => P x1 z)
theorem T_X6_twin_18  {t0 : Nat} {x1 : Option Nat} {x2 : Int} {z : Z} {c : Nat} {s : Nat} {P : Option Nat → Z → Prop} (r_x2 : R32 x2) (hw : Wz z)   (H : F_X6_twin_18 t0 x1 x2 z c s P) : J mX6_twin 5 c s (nx (QZA P)) 18 [some (vr (some t0)), some (vr (x1)), some (ii (x2))] [] (cz z) := by
  unfold F_X6_twin_18 at H
  refine lp_J (G := fun q => Wz (q.2) → R32 (q.1) → J mX6_twin 5 c s (nx (QZA P)) 18 [some (vr (some t0)), some (vr (x1)), some (ii ((q.1)))] [] (cz (q.2))) (fun q P_ hl_ he_ Hb => ?_) (x2, z) H hw r_x2
  obtain ⟨x2, z⟩ := q
  intro hw r_x2
  refine U_X6_twin_18 (P := P_) r_x2 hw  (fun x2 z Hp hw r_x2 => hl_ (x2, z) Hp hw r_x2) ?_ Hb
  · intro z Hp hw
    have H := he_ _ Hp
    refine j_aload_n (dk dt_X6_twin 25 rfl) rfl ?_
    exact j_areturn (dk dt_X6_twin 26 rfl) rfl rfl ⟨_, _, rfl, rfl, hw, H⟩
def F_X6_twin  (t0 : Nat) (z : Z) (c : Nat) (s : Nat) (P : Option Nat → Z → Prop) : Prop :=
  (1 ≤ c ∧ 4 ≤ s ∧ ∀ a_0, zK z a_0 = 0 → (∀ z_0, z_0 = nZ z a_0 7 0 → (zK z_0 t0 = 7 ∧ (∃ c_12 s_12, c_12 ≤ c - 1 ∧ s_12 ≤ s - 4 ∧ F_X6_init a_0 (zO z_0 t0 0) (zO z_0 t0 1) z_0 c_12 s_12 (fun z_12 => F_X6_twin_18 t0 (some a_0) 0 z_12 ((c - 1) - c_12) ((s - 4) - s_12) P)))))
theorem T_X6_twin  {t0 : Nat} {z : Z} {c : Nat} {s : Nat} {P : Option Nat → Z → Prop}  (hw : Wz z)  (H : F_X6_twin t0 z c s P) : Con mX6_twin 5 c s [vr (some t0)] (cz z) (QZA P) := by
  refine con_of rfl (Nat.le_of_ble_eq_true rfl) (by decide) ?_
  show J mX6_twin 5 c s _ 0 [some (vr (some t0)), none, none] [] (cz z)
  unfold F_X6_twin at H
  obtain ⟨hc_0, hs_0, H⟩ := H
  refine jz_new (dk dt_X6_twin 0 rfl) cl_6 nl_X6_10 iw_6 zw_6 rfl hc_0 hs_0 hw (fun a_0 e_0 w_0 => ?_)
  replace H := H a_0 e_0
  replace H := H _ rfl
  refine j_dup (dk dt_X6_twin 1 rfl) rfl ?_
  refine j_aload_n (dk dt_X6_twin 2 rfl) rfl ?_
  obtain ⟨k_5, H⟩ := H
  refine jz_getO (kz := 0) (dk dt_X6_twin 3 rfl) fl_X6_9 rfl rfl rfl k_5 ?_
  refine j_aload_n (dk dt_X6_twin 4 rfl) rfl ?_
  refine jz_getO (kz := 1) (dk dt_X6_twin 5 rfl) fl_X6_15 rfl rfl rfl k_5 ?_
  obtain ⟨c_12, s_12, hc_12, hs_12, H⟩ := H
  refine jz_callI2 (dk dt_X6_twin 6 rfl) il_X6_40 rfl (T_X6_init w_0 H) rfl (by decide) hc_12 hs_12 (Nat.le_of_ble_eq_true rfl) (fun v_12 h_12 P_12 => ?_)
  obtain ⟨z_12, rfl, rfl, w_12, H⟩ := P_12
  dsimp only [rs]
  refine j_astore_n (dk dt_X6_twin 7 rfl) (by decide) ?_
  refine j_iconst (v := Int32.ofInt 0) (dk dt_X6_twin 8 rfl) (by decide) ?_
  refine j_istore_n (dk dt_X6_twin 9 rfl) (by decide) ?_
  exact j_el (T_X6_twin_18 (by decide) w_12   H) (And.intro rfl (And.intro rfl (And.intro rfl trivial)))
def F_X11_settled_64  (x5 : Option Nat) (s0 : Option Nat) (s1 : Int) (s2 : Int) (s3 : Option Nat) (z : Z) (c : Nat) (s : Nat) (P : Option Nat → Z → Prop) : Prop :=
  (∃ a_64, s0 = some a_64 ∧ zK z a_64 = 7 ∧ F_X6_put a_64 s1 s2 s3 z (fun z_64 => P x5 z_64))
theorem T_X11_settled_64  {x5 : Option Nat} {s0 : Option Nat} {s1 : Int} {s2 : Int} {s3 : Option Nat} {z : Z} {c : Nat} {s : Nat} {P : Option Nat → Z → Prop} (r_s1 : R32 s1) (r_s2 : R32 s2) (hw : Wz z)   (H : F_X11_settled_64 x5 s0 s1 s2 s3 z c s P) : J mX11_settled 6 c s (nx (QZA P)) 64 [none, none, none, none, none, some (vr (x5)), none, none, none] [vr (s3), ii (s2), ii (s1), vr (s0)] (cz z) := by
  unfold F_X11_settled_64 at H
  obtain ⟨a_64, e_64, k_64, H⟩ := H
  refine jz_callV3 (dk dt_X11_settled 32 rfl) vl_X11_141 e_64 (T_X6_put r_s1 r_s2 hw H) k_64 rfl (by decide) (Nat.zero_le _) (Nat.zero_le _) (Nat.le_of_ble_eq_true rfl) (fun v_64 h_64 P_64 => ?_)
  obtain ⟨z_64, rfl, rfl, w_64, H⟩ := P_64
  dsimp only [rs]
  refine j_aload (dk dt_X11_settled 33 rfl) rfl ?_
  exact j_areturn (dk dt_X11_settled 34 rfl) rfl rfl ⟨_, _, rfl, rfl, w_64, H⟩
def F_X11_settled_170  (s0 : Option Nat) (z : Z) (c : Nat) (s : Nat) (P : Option Nat → Z → Prop) : Prop :=
  P s0 z
theorem T_X11_settled_170  {s0 : Option Nat} {z : Z} {c : Nat} {s : Nat} {P : Option Nat → Z → Prop}  (hw : Wz z)   (H : F_X11_settled_170 s0 z c s P) : J mX11_settled 6 c s (nx (QZA P)) 170 [none, none, none, none, none, none, none, none, none] [vr (s0)] (cz z) := by
  unfold F_X11_settled_170 at H
  exact j_areturn (dk dt_X11_settled 83 rfl) rfl rfl ⟨_, _, rfl, rfl, hw, H⟩
def F_X11_settled_163  (t0 : Nat) (z : Z) (c : Nat) (s : Nat) (P : Option Nat → Z → Prop) : Prop :=
  (zK z t0 = 12 ∧ (∃ a_167, zO z t0 11 = some a_167 ∧ zK z a_167 = 7 ∧ (∃ c_167 s_167, c_167 ≤ c ∧ s_167 ≤ s ∧ F_X6_twin a_167 z c_167 s_167 (fun x_167 z_167 => F_X11_settled_170 x_167 z_167 (c - c_167) (s - s_167) P))))
theorem T_X11_settled_163  {t0 : Nat} {z : Z} {c : Nat} {s : Nat} {P : Option Nat → Z → Prop}  (hw : Wz z)   (H : F_X11_settled_163 t0 z c s P) : J mX11_settled 6 c s (nx (QZA P)) 163 [some (vr (some t0)), none, none, none, none, none, none, none, none] [] (cz z) := by
  unfold F_X11_settled_163 at H
  refine j_aload_n (dk dt_X11_settled 80 rfl) rfl ?_
  obtain ⟨k_164, H⟩ := H
  refine jz_getO (kz := 11) (dk dt_X11_settled 81 rfl) fl_X11_104 rfl rfl rfl k_164 ?_
  obtain ⟨a_167, e_167, k_167, H⟩ := H
  obtain ⟨c_167, s_167, hc_167, hs_167, H⟩ := H
  refine jz_callV0 (dk dt_X11_settled 82 rfl) vl_X11_100 e_167 (T_X6_twin hw H) k_167 rfl (by decide) hc_167 hs_167 (Nat.le_of_ble_eq_true rfl) (fun v_167 h_167 P_167 => ?_)
  obtain ⟨x_167, z_167, rfl, rfl, w_167, H⟩ := P_167
  dsimp only [rs]
  exact j_el (T_X11_settled_170  w_167   H) trivial
def F_X11_settled_125  (t0 : Nat) (x5 : Int) (x6 : Int) (x7 : Option Nat) (s0 : Int) (z : Z) (c : Nat) (s : Nat) (P : Option Nat → Z → Prop) : Prop :=
  (if s0 = 0 then F_X11_settled_163 t0 z c s P else (if x6 ≤ 0 then F_X11_settled_163 t0 z c s P else (∃ a_139, x7 = some a_139 ∧ zK z a_139 = 15 ∧ (if zN z a_139 ≤ 1 then F_X11_settled_163 t0 z c s P else (zK z t0 = 12 ∧ (∃ c_154 s_154, c_154 ≤ c ∧ s_154 ≤ s ∧ F_X11_without x7 x6 z c_154 s_154 (fun x_154 z_154 => (∃ a_157, zO z t0 11 = some a_157 ∧ zK z_154 a_157 = 7 ∧ (∃ c_157 s_157, c_157 ≤ c - c_154 ∧ s_157 ≤ s - s_154 ∧ F_X6_shapedAlong a_157 x5 x_154 z_154 c_157 s_157 (fun x_157 z_157 => F_X11_settled_170 x_157 z_157 ((c - c_154) - c_157) ((s - s_154) - s_157) P))))))))))
theorem T_X11_settled_125  {t0 : Nat} {x5 : Int} {x6 : Int} {x7 : Option Nat} {s0 : Int} {z : Z} {c : Nat} {s : Nat} {P : Option Nat → Z → Prop} (r_x5 : R32 x5) (r_x6 : R32 x6) (r_s0 : R32 s0) (hw : Wz z)   (H : F_X11_settled_125 t0 x5 x6 x7 s0 z c s P) : J mX11_settled 6 c s (nx (QZA P)) 125 [some (vr (some t0)), none, none, none, none, some (ii (x5)), some (ii (x6)), some (vr (x7)), none] [ii (s0)] (cz z) := by
  unfold F_X11_settled_125 at H
  refine j_istore (dk dt_X11_settled 63 rfl) (by decide) ?_
  refine j_iload (dk dt_X11_settled 64 rfl) rfl ?_
  refine jz_if_eq 163 (dk dt_X11_settled 65 rfl) (by decide) r_s0 H (fun H => ?_) (fun H => ?_)
  · exact j_el (T_X11_settled_163  hw   H) (And.intro rfl trivial)
  · refine j_iload (dk dt_X11_settled 66 rfl) rfl ?_
    refine jz_if_le 163 (dk dt_X11_settled 67 rfl) (by decide) r_x6 H (fun H => ?_) (fun H => ?_)
    · exact j_el (T_X11_settled_163  hw   H) (And.intro rfl trivial)
    · refine j_aload (dk dt_X11_settled 68 rfl) rfl ?_
      obtain ⟨a_139, e_139, k_139, H⟩ := H
      refine jz_alen (t := 1) (dk dt_X11_settled 69 rfl) e_139 k_139 (by decide) hw ?_
      refine j_iconst (v := Int32.ofInt 1) (dk dt_X11_settled 70 rfl) (by decide) ?_
      refine jz_icmp_le 163 (dk dt_X11_settled 71 rfl) (by decide) (r32_len hw _) (by decide) H (fun H => ?_) (fun H => ?_)
      · exact j_el (T_X11_settled_163  hw   H) (And.intro rfl trivial)
      · refine j_aload_n (dk dt_X11_settled 72 rfl) rfl ?_
        obtain ⟨k_145, H⟩ := H
        refine jz_getO (kz := 11) (dk dt_X11_settled 73 rfl) fl_X11_104 rfl rfl rfl k_145 ?_
        refine j_iload (dk dt_X11_settled 74 rfl) rfl ?_
        refine j_aload (dk dt_X11_settled 75 rfl) rfl ?_
        refine j_iload (dk dt_X11_settled 76 rfl) rfl ?_
        obtain ⟨c_154, s_154, hc_154, hs_154, H⟩ := H
        refine j_callS2 (dk dt_X11_settled 77 rfl) sl_X11_181 (T_X11_without r_x6 hw H) rfl (by decide) hc_154 hs_154 (Nat.le_of_ble_eq_true rfl) (fun v_154 h_154 P_154 => ?_)
        obtain ⟨x_154, z_154, rfl, rfl, w_154, H⟩ := P_154
        dsimp only [rs]
        obtain ⟨a_157, e_157, k_157, H⟩ := H
        obtain ⟨c_157, s_157, hc_157, hs_157, H⟩ := H
        refine jz_callV2 (dk dt_X11_settled 78 rfl) vl_X11_177 e_157 (T_X6_shapedAlong r_x5 w_154 H) k_157 rfl (by decide) hc_157 hs_157 (Nat.le_of_ble_eq_true rfl) (fun v_157 h_157 P_157 => ?_)
        obtain ⟨x_157, z_157, rfl, rfl, w_157, H⟩ := P_157
        dsimp only [rs]
        refine j_goto 170 (dk dt_X11_settled 79 rfl) (by decide) ?_
        exact j_el (T_X11_settled_170  w_157   H) trivial
def F_X11_settled_99  (t0 : Nat) (x1 : Option Nat) (x2 : Int) (x5 : Int) (s0 : Int) (z : Z) (c : Nat) (s : Nat) (P : Option Nat → Z → Prop) : Prop :=
  (zK z t0 = 12 ∧ (∃ a_107, zO z t0 11 = some a_107 ∧ zK z a_107 = 7 ∧ F_X6_line a_107 x5 z (fun x_107 => (∃ a_114, x1 = some a_114 ∧ zK z a_114 = 1 ∧ (if x2 = zI z a_114 3 then F_X11_settled_125 t0 x5 s0 x_107 1 z c s P else F_X11_settled_125 t0 x5 s0 x_107 0 z c s P)))))
theorem T_X11_settled_99  {t0 : Nat} {x1 : Option Nat} {x2 : Int} {x5 : Int} {s0 : Int} {z : Z} {c : Nat} {s : Nat} {P : Option Nat → Z → Prop} (r_x2 : R32 x2) (r_x5 : R32 x5) (r_s0 : R32 s0) (hw : Wz z)   (H : F_X11_settled_99 t0 x1 x2 x5 s0 z c s P) : J mX11_settled 6 c s (nx (QZA P)) 99 [some (vr (some t0)), some (vr (x1)), some (ii (x2)), none, none, some (ii (x5)), none, none, none] [ii (s0)] (cz z) := by
  unfold F_X11_settled_99 at H
  refine j_istore (dk dt_X11_settled 50 rfl) (by decide) ?_
  refine j_aload_n (dk dt_X11_settled 51 rfl) rfl ?_
  obtain ⟨k_102, H⟩ := H
  refine jz_getO (kz := 11) (dk dt_X11_settled 52 rfl) fl_X11_104 rfl rfl rfl k_102 ?_
  refine j_iload (dk dt_X11_settled 53 rfl) rfl ?_
  obtain ⟨a_107, e_107, k_107, H⟩ := H
  refine jz_callV1 (dk dt_X11_settled 54 rfl) vl_X11_160 e_107 (T_X6_line r_x5 hw H) k_107 rfl (by decide) (Nat.zero_le _) (Nat.zero_le _) (Nat.le_of_ble_eq_true rfl) (fun v_107 h_107 P_107 => ?_)
  obtain ⟨x_107, rfl, rfl, H⟩ := P_107
  dsimp only [rs]
  refine j_astore (dk dt_X11_settled 55 rfl) (by decide) ?_
  refine j_iload_n (dk dt_X11_settled 56 rfl) rfl ?_
  refine j_aload_n (dk dt_X11_settled 57 rfl) rfl ?_
  obtain ⟨a_114, e_114, k_114, H⟩ := H
  refine jz_getI (kz := 3) (dk dt_X11_settled 58 rfl) fl_X11_440 rfl rfl e_114 k_114 ?_
  refine jz_icmp_ne 124 (dk dt_X11_settled 59 rfl) (by decide) r_x2 (hw.1 _ _) H (fun H => ?_) (fun H => ?_)
  · refine j_iconst (v := Int32.ofInt 1) (dk dt_X11_settled 60 rfl) (by decide) ?_
    refine j_goto 125 (dk dt_X11_settled 61 rfl) (by decide) ?_
    exact j_el (T_X11_settled_125 r_x5 r_s0 (by decide) hw   H) (And.intro rfl (And.intro rfl (And.intro rfl (And.intro rfl trivial))))
  · refine j_iconst (v := Int32.ofInt 0) (dk dt_X11_settled 62 rfl) (by decide) ?_
    exact j_el (T_X11_settled_125 r_x5 r_s0 (by decide) hw   H) (And.intro rfl (And.intro rfl (And.intro rfl (And.intro rfl trivial))))
def F_X11_settled_83  (t0 : Nat) (x1 : Option Nat) (x2 : Int) (x3 : Int) (x4 : Int) (s0 : Int) (z : Z) (c : Nat) (s : Nat) (P : Option Nat → Z → Prop) : Prop :=
  (∃ a_86, x1 = some a_86 ∧ zK z a_86 = 1 ∧ (if zI z a_86 0 = 1 then F_X11_settled_99 t0 x1 x2 s0 x3 z c s P else F_X11_settled_99 t0 x1 x2 s0 x4 z c s P))
theorem T_X11_settled_83  {t0 : Nat} {x1 : Option Nat} {x2 : Int} {x3 : Int} {x4 : Int} {s0 : Int} {z : Z} {c : Nat} {s : Nat} {P : Option Nat → Z → Prop} (r_x2 : R32 x2) (r_x3 : R32 x3) (r_x4 : R32 x4) (r_s0 : R32 s0) (hw : Wz z)   (H : F_X11_settled_83 t0 x1 x2 x3 x4 s0 z c s P) : J mX11_settled 6 c s (nx (QZA P)) 83 [some (vr (some t0)), some (vr (x1)), some (ii (x2)), some (ii (x3)), some (ii (x4)), none, none, none, none] [ii (s0)] (cz z) := by
  unfold F_X11_settled_83 at H
  refine j_istore (dk dt_X11_settled 42 rfl) (by decide) ?_
  refine j_aload_n (dk dt_X11_settled 43 rfl) rfl ?_
  obtain ⟨a_86, e_86, k_86, H⟩ := H
  refine jz_getI (kz := 0) (dk dt_X11_settled 44 rfl) fl_X11_291 rfl rfl e_86 k_86 ?_
  refine j_iconst (v := Int32.ofInt 1) (dk dt_X11_settled 45 rfl) (by decide) ?_
  refine jz_icmp_ne 97 (dk dt_X11_settled 46 rfl) (by decide) (hw.1 _ _) (by decide) H (fun H => ?_) (fun H => ?_)
  · refine j_iload_n (dk dt_X11_settled 47 rfl) rfl ?_
    refine j_goto 99 (dk dt_X11_settled 48 rfl) (by decide) ?_
    exact j_el (T_X11_settled_99 r_x2 r_s0 r_x3 hw   H) (And.intro rfl (And.intro rfl (And.intro rfl (And.intro rfl trivial))))
  · refine j_iload (dk dt_X11_settled 49 rfl) rfl ?_
    exact j_el (T_X11_settled_99 r_x2 r_s0 r_x4 hw   H) (And.intro rfl (And.intro rfl (And.intro rfl (And.intro rfl trivial))))
def F_X11_settled  (t0 : Nat) (x1 : Option Nat) (x2 : Int) (z : Z) (c : Nat) (s : Nat) (P : Option Nat → Z → Prop) : Prop :=
  (zK z t0 = 12 ∧ (∃ a_6, x1 = some a_6 ∧ zK z a_6 = 1 ∧ (∃ a_9, zO z t0 11 = some a_9 ∧ zK z a_9 = 7 ∧ F_X6_placeOf a_9 0 (zI z a_6 1) z (fun x_9 => F_X6_placeOf a_9 1 (zI z a_6 2) z (fun x_22 => (if zI z a_6 0 = 3 then (∃ c_39 s_39, c_39 ≤ c ∧ s_39 ≤ s ∧ F_X6_twin a_9 z c_39 s_39 (fun x_39 z_39 => (if x2 = 0 then (∃ a_61, x1 = some a_61 ∧ zK z_39 a_61 = 1 ∧ F_X11_settled_64 x_39 x_39 x_9 x_22 (zO z_39 a_61 4) z_39 (c - c_39) (s - s_39) P) else (∃ a_54, x1 = some a_54 ∧ zK z_39 a_54 = 1 ∧ F_X11_settled_64 x_39 x_39 x_9 x_22 (zO z_39 a_54 5) z_39 (c - c_39) (s - s_39) P)))) else (if zI z a_6 0 = 1 then F_X11_settled_83 t0 x1 x2 x_9 x_22 0 z c s P else F_X11_settled_83 t0 x1 x2 x_9 x_22 1 z c s P)))))))
theorem T_X11_settled  {t0 : Nat} {x1 : Option Nat} {x2 : Int} {z : Z} {c : Nat} {s : Nat} {P : Option Nat → Z → Prop} (r_x2 : R32 x2) (hw : Wz z)  (H : F_X11_settled t0 x1 x2 z c s P) : Con mX11_settled 6 c s [vr (some t0), vr (x1), ii (x2)] (cz z) (QZA P) := by
  refine con_of rfl (Nat.le_of_ble_eq_true rfl) (by decide) ?_
  show J mX11_settled 6 c s _ 0 [some (vr (some t0)), some (vr (x1)), some (ii (x2)), none, none, none, none, none, none] [] (cz z)
  unfold F_X11_settled at H
  refine j_aload_n (dk dt_X11_settled 0 rfl) rfl ?_
  obtain ⟨k_1, H⟩ := H
  refine jz_getO (kz := 11) (dk dt_X11_settled 1 rfl) fl_X11_104 rfl rfl rfl k_1 ?_
  refine j_iconst (v := Int32.ofInt 0) (dk dt_X11_settled 2 rfl) (by decide) ?_
  refine j_aload_n (dk dt_X11_settled 3 rfl) rfl ?_
  obtain ⟨a_6, e_6, k_6, H⟩ := H
  refine jz_getI (kz := 1) (dk dt_X11_settled 4 rfl) fl_X11_296 rfl rfl e_6 k_6 ?_
  obtain ⟨a_9, e_9, k_9, H⟩ := H
  refine jz_callV2 (dk dt_X11_settled 5 rfl) vl_X11_299 e_9 (T_X6_placeOf (by decide) (hw.1 _ _) hw H) k_9 rfl (by decide) (Nat.zero_le _) (Nat.zero_le _) (Nat.le_of_ble_eq_true rfl) (fun v_9 h_9 P_9 => ?_)
  obtain ⟨x_9, rfl, r_9, rfl, H⟩ := P_9
  dsimp only [rs]
  refine j_istore_n (dk dt_X11_settled 6 rfl) (by decide) ?_
  refine j_aload_n (dk dt_X11_settled 7 rfl) rfl ?_
  refine jz_getO (kz := 11) (dk dt_X11_settled 8 rfl) fl_X11_104 rfl rfl rfl k_1 ?_
  refine j_iconst (v := Int32.ofInt 1) (dk dt_X11_settled 9 rfl) (by decide) ?_
  refine j_aload_n (dk dt_X11_settled 10 rfl) rfl ?_
  refine jz_getI (kz := 2) (dk dt_X11_settled 11 rfl) fl_X11_302 rfl rfl e_6 k_6 ?_
  refine jz_callV2 (dk dt_X11_settled 12 rfl) vl_X11_299 e_9 (T_X6_placeOf (by decide) (hw.1 _ _) hw H) k_9 rfl (by decide) (Nat.zero_le _) (Nat.zero_le _) (Nat.le_of_ble_eq_true rfl) (fun v_22 h_22 P_22 => ?_)
  obtain ⟨x_22, rfl, r_22, rfl, H⟩ := P_22
  dsimp only [rs]
  refine j_istore (dk dt_X11_settled 13 rfl) (by decide) ?_
  refine j_aload_n (dk dt_X11_settled 14 rfl) rfl ?_
  refine jz_getI (kz := 0) (dk dt_X11_settled 15 rfl) fl_X11_291 rfl rfl e_6 k_6 ?_
  refine j_iconst (v := Int32.ofInt 3) (dk dt_X11_settled 16 rfl) (by decide) ?_
  refine jz_icmp_ne 70 (dk dt_X11_settled 17 rfl) (by decide) (hw.1 _ _) (by decide) H (fun H => ?_) (fun H => ?_)
  · refine j_aload_n (dk dt_X11_settled 18 rfl) rfl ?_
    refine jz_getO (kz := 11) (dk dt_X11_settled 19 rfl) fl_X11_104 rfl rfl rfl k_1 ?_
    obtain ⟨c_39, s_39, hc_39, hs_39, H⟩ := H
    refine jz_callV0 (dk dt_X11_settled 20 rfl) vl_X11_100 e_9 (T_X6_twin hw H) k_9 rfl (by decide) hc_39 hs_39 (Nat.le_of_ble_eq_true rfl) (fun v_39 h_39 P_39 => ?_)
    obtain ⟨x_39, z_39, rfl, rfl, w_39, H⟩ := P_39
    dsimp only [rs]
    refine j_astore (dk dt_X11_settled 21 rfl) (by decide) ?_
    refine j_aload (dk dt_X11_settled 22 rfl) rfl ?_
    refine j_iload_n (dk dt_X11_settled 23 rfl) rfl ?_
    refine j_iload (dk dt_X11_settled 24 rfl) rfl ?_
    refine j_iload_n (dk dt_X11_settled 25 rfl) rfl ?_
    refine jz_if_eq 60 (dk dt_X11_settled 26 rfl) (by decide) r_x2 H (fun H => ?_) (fun H => ?_)
    · refine j_aload_n (dk dt_X11_settled 30 rfl) rfl ?_
      obtain ⟨a_61, e_61, k_61, H⟩ := H
      refine jz_getO (kz := 4) (dk dt_X11_settled 31 rfl) fl_X11_437 rfl rfl e_61 k_61 ?_
      exact j_el (T_X11_settled_64 r_9 r_22 w_39   H) (And.intro rfl trivial)
    · refine j_aload_n (dk dt_X11_settled 27 rfl) rfl ?_
      obtain ⟨a_54, e_54, k_54, H⟩ := H
      refine jz_getO (kz := 5) (dk dt_X11_settled 28 rfl) fl_X11_433 rfl rfl e_54 k_54 ?_
      refine j_goto 64 (dk dt_X11_settled 29 rfl) (by decide) ?_
      exact j_el (T_X11_settled_64 r_9 r_22 w_39   H) (And.intro rfl trivial)
  · refine j_aload_n (dk dt_X11_settled 35 rfl) rfl ?_
    refine jz_getI (kz := 0) (dk dt_X11_settled 36 rfl) fl_X11_291 rfl rfl e_6 k_6 ?_
    refine j_iconst (v := Int32.ofInt 1) (dk dt_X11_settled 37 rfl) (by decide) ?_
    refine jz_icmp_ne 82 (dk dt_X11_settled 38 rfl) (by decide) (hw.1 _ _) (by decide) H (fun H => ?_) (fun H => ?_)
    · refine j_iconst (v := Int32.ofInt 0) (dk dt_X11_settled 39 rfl) (by decide) ?_
      refine j_goto 83 (dk dt_X11_settled 40 rfl) (by decide) ?_
      exact j_el (T_X11_settled_83 r_x2 r_9 r_22 (by decide) hw   H) (And.intro rfl (And.intro rfl (And.intro rfl (And.intro rfl (And.intro rfl trivial)))))
    · refine j_iconst (v := Int32.ofInt 1) (dk dt_X11_settled 41 rfl) (by decide) ?_
      exact j_el (T_X11_settled_83 r_x2 r_9 r_22 (by decide) hw   H) (And.intro rfl (And.intro rfl (And.intro rfl (And.intro rfl (And.intro rfl trivial)))))
def F_X11_show  (t0 : Nat) (x1 : Option Nat) (z : Z) (P : Z → Prop) : Prop :=
  (zK z t0 = 12 ∧ (∃ a_5, zO z t0 11 = some a_5 ∧ zK z a_5 = 7 ∧ (∀ z_5, z_5 = wO z a_5 3 none → (∀ z_10, z_10 = wO z_5 t0 11 x1 → P z_10))))
theorem T_X11_show  {t0 : Nat} {x1 : Option Nat} {z : Z} {P : Z → Prop}  (hw : Wz z)  (H : F_X11_show t0 x1 z P) : Con mX11_show 1 0 0 [vr (some t0), vr (x1)] (cz z) (QZV P) := by
  refine con_of rfl (Nat.le_of_ble_eq_true rfl) (by decide) ?_
  show J mX11_show 1 0 0 _ 0 [some (vr (some t0)), some (vr (x1))] [] (cz z)
  unfold F_X11_show at H
  refine j_aload_n (dk dt_X11_show 0 rfl) rfl ?_
  obtain ⟨k_1, H⟩ := H
  refine jz_getO (kz := 11) (dk dt_X11_show 1 rfl) fl_X11_104 rfl rfl rfl k_1 ?_
  refine j_null (dk dt_X11_show 2 rfl) ?_
  obtain ⟨a_5, e_5, k_5, H⟩ := H
  refine jz_putO (kz := 3) (dk dt_X11_show 3 rfl) fl_X11_404 rfl rfl e_5 k_5 hw (fun w_5 => ?_)
  replace H := H _ rfl
  refine j_aload_n (dk dt_X11_show 4 rfl) rfl ?_
  refine j_aload_n (dk dt_X11_show 5 rfl) rfl ?_
  refine jz_putO (kz := 11) (dk dt_X11_show 6 rfl) fl_X11_104 rfl rfl rfl k_1 w_5 (fun w_10 => ?_)
  replace H := H _ rfl
  exact j_return (dk dt_X11_show 7 rfl) rfl ⟨_, rfl, rfl, w_10, H⟩
def F_X7_add_48  (t0 : Nat) (x1 : Option Nat) (z : Z) (P : Z → Prop) : Prop :=
  (zK z t0 = 8 ∧ (∃ a_57, zO z t0 0 = some a_57 ∧ zK z a_57 = 21 ∧ (0 ≤ zI z t0 2 ∧ zI z t0 2 < zN z a_57 ∧ ((∀ v, x1 = some v → zK z v = 7) ∧ (∀ z_57, z_57 = wO z a_57 (zI z t0 2) x1 → (∀ z_65, z_65 = wI z_57 t0 2 (w32 (zI z_57 t0 2 + 1)) → P z_65))))))
theorem T_X7_add_48  {t0 : Nat} {x1 : Option Nat} {z : Z} {P : Z → Prop}  (hw : Wz z)   (H : F_X7_add_48 t0 x1 z P) : J mX7_add 1 0 0 (nx (QZV P)) 48 [some (vr (some t0)), some (vr (x1)), none] [] (cz z) := by
  unfold F_X7_add_48 at H
  refine j_aload_n (dk dt_X7_add 27 rfl) rfl ?_
  obtain ⟨k_49, H⟩ := H
  refine jz_getO (kz := 0) (dk dt_X7_add 28 rfl) fl_X7_11 rfl rfl rfl k_49 ?_
  refine j_aload_n (dk dt_X7_add 29 rfl) rfl ?_
  refine jz_getI (kz := 2) (dk dt_X7_add 30 rfl) fl_X7_20 rfl rfl rfl k_49 ?_
  refine j_aload_n (dk dt_X7_add 31 rfl) rfl ?_
  obtain ⟨a_57, e_57, k_57, H⟩ := H
  obtain ⟨p_57, q_57, H⟩ := H
  obtain ⟨v_57, H⟩ := H
  refine jz_aast (t := 7) (dk dt_X7_add 32 rfl) e_57 k_57 (by decide) (by decide) p_57 q_57 hw v_57 (fun w_57 => ?_)
  replace H := H _ rfl
  refine j_aload_n (dk dt_X7_add 33 rfl) rfl ?_
  refine j_dup (dk dt_X7_add 34 rfl) rfl ?_
  refine jz_getI (kz := 2) (dk dt_X7_add 35 rfl) fl_X7_20 rfl rfl rfl k_49 ?_
  refine j_iconst (v := Int32.ofInt 1) (dk dt_X7_add 36 rfl) (by decide) ?_
  refine jz_iadd (dk dt_X7_add 37 rfl) ?_
  refine jz_putI (kz := 2) (dk dt_X7_add 38 rfl) fl_X7_20 rfl rfl rfl rfl rfl k_49 w_57 (r32_w _) (fun w_65 => ?_)
  replace H := H _ rfl
  exact j_return (dk dt_X7_add 39 rfl) rfl ⟨_, rfl, rfl, w_65, H⟩
def L_X7_add_16  (t0 : Nat) (x1 : Option Nat) (x2 : Int) (z : Z) (P : (Int × Z) ⊕ ((Z)) → Prop) : Prop :=
  (if 40 ≤ x2 then P (.inr z) else (zK z t0 = 8 ∧ (∃ a_34, zO z t0 0 = some a_34 ∧ zK z a_34 = 21 ∧ (0 ≤ x2 ∧ x2 < zN z a_34 ∧ (0 ≤ w32 (x2 - 1) ∧ w32 (x2 - 1) < zN z a_34 ∧ ((∀ v, zO z a_34 x2 = some v → zK z v = 7) ∧ (∀ z_35, z_35 = wO z a_34 (w32 (x2 - 1)) (zO z a_34 x2) → P (.inl (w32 (x2 + 1), z_35)))))))))
theorem U_X7_add_16  {t0 : Nat} {x1 : Option Nat} {x2 : Int} {z : Z} {P : (Int × Z) ⊕ ((Z)) → Prop} {post : Option Sv ⊕ String → Hp → Prop} (r_x2 : R32 x2) (hw : Wz z)  (hl : ∀ (x2 : Int) (z : Z), P (.inl (x2, z)) → Wz z → R32 x2 → J mX7_add 1 0 0 post 16 [some (vr (some t0)), some (vr (x1)), some (ii (x2))] [] (cz z)) (he0 : ∀ (z : Z), P (.inr z) → Wz z → J mX7_add 1 0 0 post 42 [some (vr (some t0)), some (vr (x1)), none] [] (cz z)) (H : L_X7_add_16 t0 x1 x2 z P) : J mX7_add 1 0 0 post 16 [some (vr (some t0)), some (vr (x1)), some (ii (x2))] [] (cz z) := by
  unfold L_X7_add_16 at H
  refine j_iload_n (dk dt_X7_add 9 rfl) rfl ?_
  refine j_bipush (v := Int32.ofInt 40) (dk dt_X7_add 10 rfl) (by decide) ?_
  refine jz_icmp_ge 42 (dk dt_X7_add 11 rfl) (by decide) r_x2 (by decide) H (fun H => ?_) (fun H => ?_)
  · exact j_el (he0 _ H hw) (And.intro rfl (And.intro rfl trivial))
  · refine j_aload_n (dk dt_X7_add 12 rfl) rfl ?_
    obtain ⟨k_23, H⟩ := H
    refine jz_getO (kz := 0) (dk dt_X7_add 13 rfl) fl_X7_11 rfl rfl rfl k_23 ?_
    refine j_iload_n (dk dt_X7_add 14 rfl) rfl ?_
    refine j_iconst (v := Int32.ofInt 1) (dk dt_X7_add 15 rfl) (by decide) ?_
    refine jz_isub (dk dt_X7_add 16 rfl) ?_
    refine j_aload_n (dk dt_X7_add 17 rfl) rfl ?_
    refine jz_getO (kz := 0) (dk dt_X7_add 18 rfl) fl_X7_11 rfl rfl rfl k_23 ?_
    refine j_iload_n (dk dt_X7_add 19 rfl) rfl ?_
    obtain ⟨a_34, e_34, k_34, H⟩ := H
    obtain ⟨p_34, q_34, H⟩ := H
    refine jz_aald (t := 7) (dk dt_X7_add 20 rfl) e_34 k_34 (by decide) (by decide) p_34 q_34 hw ?_
    obtain ⟨p_35, q_35, H⟩ := H
    obtain ⟨v_35, H⟩ := H
    refine jz_aast (t := 7) (dk dt_X7_add 21 rfl) e_34 k_34 (by decide) (by decide) p_35 q_35 hw v_35 (fun w_35 => ?_)
    replace H := H _ rfl
    refine jz_iinc (dk dt_X7_add 22 rfl) rfl ?_
    refine j_goto 16 (dk dt_X7_add 23 rfl) (by decide) ?_
    exact j_el (hl _ _ H w_35 (r32_w _)) (And.intro rfl (And.intro rfl (And.intro rfl trivial)))
def F_X7_add_16  (t0 : Nat) (x1 : Option Nat) (x2 : Int) (z : Z) (P : Z → Prop) : Prop :=
  lp (S := Int × Z) (E := (Z)) (fun q P_ => L_X7_add_16 t0 x1 q.1 q.2 P_) (x2, z) (fun (z : Z) => (zK z t0 = 8 ∧ (∀ z_45, z_45 = wI z t0 2 39 → F_X7_add_48 t0 x1 z_45 P)))
theorem T_X7_add_16  {t0 : Nat} {x1 : Option Nat} {x2 : Int} {z : Z} {P : Z → Prop} (r_x2 : R32 x2) (hw : Wz z)   (H : F_X7_add_16 t0 x1 x2 z P) : J mX7_add 1 0 0 (nx (QZV P)) 16 [some (vr (some t0)), some (vr (x1)), some (ii (x2))] [] (cz z) := by
  unfold F_X7_add_16 at H
  refine lp_J (G := fun q => Wz (q.2) → R32 (q.1) → J mX7_add 1 0 0 (nx (QZV P)) 16 [some (vr (some t0)), some (vr (x1)), some (ii ((q.1)))] [] (cz (q.2))) (fun q P_ hl_ he_ Hb => ?_) (x2, z) H hw r_x2
  obtain ⟨x2, z⟩ := q
  intro hw r_x2
  refine U_X7_add_16 (P := P_) r_x2 hw  (fun x2 z Hp hw r_x2 => hl_ (x2, z) Hp hw r_x2) ?_ Hb
  · intro z Hp hw
    have H := he_ _ Hp
    refine j_aload_n (dk dt_X7_add 24 rfl) rfl ?_
    refine j_bipush (v := Int32.ofInt 39) (dk dt_X7_add 25 rfl) (by decide) ?_
    obtain ⟨k_45, H⟩ := H
    refine jz_putI (kz := 2) (dk dt_X7_add 26 rfl) fl_X7_20 rfl rfl rfl rfl rfl k_45 hw (by decide) (fun w_45 => ?_)
    replace H := H _ rfl
    exact j_el (T_X7_add_48  w_45   H) (And.intro rfl (And.intro rfl trivial))
def F_X7_add  (t0 : Nat) (x1 : Option Nat) (z : Z) (P : Z → Prop) : Prop :=
  (zK z t0 = 8 ∧ (∀ z_2, z_2 = wI z t0 3 0 → (if zI z_2 t0 2 < 40 then F_X7_add_48 t0 x1 z_2 P else F_X7_add_16 t0 x1 1 z_2 P)))
theorem T_X7_add  {t0 : Nat} {x1 : Option Nat} {z : Z} {P : Z → Prop}  (hw : Wz z)  (H : F_X7_add t0 x1 z P) : Con mX7_add 1 0 0 [vr (some t0), vr (x1)] (cz z) (QZV P) := by
  refine con_of rfl (Nat.le_of_ble_eq_true rfl) (by decide) ?_
  show J mX7_add 1 0 0 _ 0 [some (vr (some t0)), some (vr (x1)), none] [] (cz z)
  unfold F_X7_add at H
  refine j_aload_n (dk dt_X7_add 0 rfl) rfl ?_
  refine j_iconst (v := Int32.ofInt 0) (dk dt_X7_add 1 rfl) (by decide) ?_
  obtain ⟨k_2, H⟩ := H
  refine jz_putI (kz := 3) (dk dt_X7_add 2 rfl) fl_X7_24 rfl rfl rfl rfl rfl k_2 hw (by decide) (fun w_2 => ?_)
  replace H := H _ rfl
  refine j_aload_n (dk dt_X7_add 3 rfl) rfl ?_
  refine jz_getI (kz := 2) (dk dt_X7_add 4 rfl) fl_X7_20 rfl rfl rfl k_2 ?_
  refine j_bipush (v := Int32.ofInt 40) (dk dt_X7_add 5 rfl) (by decide) ?_
  refine jz_icmp_lt 48 (dk dt_X7_add 6 rfl) (by decide) (w_2.1 _ _) (by decide) H (fun H => ?_) (fun H => ?_)
  · exact j_el (T_X7_add_48  w_2   H) (And.intro rfl (And.intro rfl trivial))
  · refine j_iconst (v := Int32.ofInt 1) (dk dt_X7_add 7 rfl) (by decide) ?_
    refine j_istore_n (dk dt_X7_add 8 rfl) (by decide) ?_
    exact j_el (T_X7_add_16 (by decide) w_2   H) (And.intro rfl (And.intro rfl (And.intro rfl trivial)))
def F_X11_step  (t0 : Nat) (x1 : Option Nat) (z : Z) (P : Z → Prop) : Prop :=
  (zK z t0 = 12 ∧ (∃ a_8, zO z t0 5 = some a_8 ∧ zK z a_8 = 8 ∧ F_X7_add a_8 (zO z t0 11) z (fun z_8 => (zK z_8 t0 = 12 ∧ F_X11_show t0 x1 z_8 (fun z_13 => P z_13)))))
theorem T_X11_step  {t0 : Nat} {x1 : Option Nat} {z : Z} {P : Z → Prop}  (hw : Wz z)  (H : F_X11_step t0 x1 z P) : Con mX11_step 2 0 0 [vr (some t0), vr (x1)] (cz z) (QZV P) := by
  refine con_of rfl (Nat.le_of_ble_eq_true rfl) (by decide) ?_
  show J mX11_step 2 0 0 _ 0 [some (vr (some t0)), some (vr (x1))] [] (cz z)
  unfold F_X11_step at H
  refine j_aload_n (dk dt_X11_step 0 rfl) rfl ?_
  obtain ⟨k_1, H⟩ := H
  refine jz_getO (kz := 5) (dk dt_X11_step 1 rfl) fl_X11_53 rfl rfl rfl k_1 ?_
  refine j_aload_n (dk dt_X11_step 2 rfl) rfl ?_
  refine jz_getO (kz := 11) (dk dt_X11_step 3 rfl) fl_X11_104 rfl rfl rfl k_1 ?_
  obtain ⟨a_8, e_8, k_8, H⟩ := H
  refine jz_callV1 (dk dt_X11_step 4 rfl) vl_X11_402 e_8 (T_X7_add hw H) k_8 rfl (by decide) (Nat.zero_le _) (Nat.zero_le _) (Nat.le_of_ble_eq_true rfl) (fun v_8 h_8 P_8 => ?_)
  obtain ⟨z_8, rfl, rfl, w_8, H⟩ := P_8
  dsimp only [rs]
  refine j_aload_n (dk dt_X11_step 5 rfl) rfl ?_
  refine j_aload_n (dk dt_X11_step 6 rfl) rfl ?_
  obtain ⟨k_13, H⟩ := H
  refine jz_callV1 (dk dt_X11_step 7 rfl) vl_X11_230 rfl (T_X11_show w_8 H) k_13 rfl (by decide) (Nat.zero_le _) (Nat.zero_le _) (Nat.le_of_ble_eq_true rfl) (fun v_13 h_13 P_13 => ?_)
  obtain ⟨z_13, rfl, rfl, w_13, H⟩ := P_13
  dsimp only [rs]
  exact j_return (dk dt_X11_step 8 rfl) rfl ⟨_, rfl, rfl, w_13, H⟩
def F_X3_at_22  (s0 : Option Nat) (z : Z) (P : Option Nat → Prop) : Prop :=
  P s0
theorem T_X3_at_22  {s0 : Option Nat} {z : Z} {P : Option Nat → Prop}  (hw : Wz z)   (H : F_X3_at_22 s0 z P) : J mX3_at 1 0 0 (nx (QPA (cz z) P)) 22 [none, none] [vr (s0)] (cz z) := by
  unfold F_X3_at_22 at H
  exact j_areturn (dk dt_X3_at 12 rfl) rfl rfl ⟨_, rfl, rfl, H⟩
def F_X3_at_21  (z : Z) (P : Option Nat → Prop) : Prop :=
  F_X3_at_22 none z P
theorem T_X3_at_21  {z : Z} {P : Option Nat → Prop}  (hw : Wz z)   (H : F_X3_at_21 z P) : J mX3_at 1 0 0 (nx (QPA (cz z) P)) 21 [none, none] [] (cz z) := by
  unfold F_X3_at_21 at H
  refine j_null (dk dt_X3_at 11 rfl) ?_
  exact j_el (T_X3_at_22  hw   H) trivial
def F_X3_at  (t0 : Nat) (x1 : Int) (z : Z) (P : Option Nat → Prop) : Prop :=
  (if x1 < 0 then F_X3_at_21 z P else (zK z t0 = 4 ∧ (if zI z t0 2 ≤ x1 then F_X3_at_21 z P else (∃ a_17, zO z t0 0 = some a_17 ∧ zK z a_17 = 18 ∧ (0 ≤ x1 ∧ x1 < zN z a_17 ∧ F_X3_at_22 (zO z a_17 x1) z P)))))
theorem T_X3_at  {t0 : Nat} {x1 : Int} {z : Z} {P : Option Nat → Prop} (r_x1 : R32 x1) (hw : Wz z)  (H : F_X3_at t0 x1 z P) : Con mX3_at 1 0 0 [vr (some t0), ii (x1)] (cz z) (QPA (cz z) P) := by
  refine con_of rfl (Nat.le_of_ble_eq_true rfl) (by decide) ?_
  show J mX3_at 1 0 0 _ 0 [some (vr (some t0)), some (ii (x1))] [] (cz z)
  unfold F_X3_at at H
  refine j_iload_n (dk dt_X3_at 0 rfl) rfl ?_
  refine jz_if_lt 21 (dk dt_X3_at 1 rfl) (by decide) r_x1 H (fun H => ?_) (fun H => ?_)
  · exact j_el (T_X3_at_21  hw   H) trivial
  · refine j_iload_n (dk dt_X3_at 2 rfl) rfl ?_
    refine j_aload_n (dk dt_X3_at 3 rfl) rfl ?_
    obtain ⟨k_6, H⟩ := H
    refine jz_getI (kz := 2) (dk dt_X3_at 4 rfl) fl_X3_21 rfl rfl rfl k_6 ?_
    refine jz_icmp_ge 21 (dk dt_X3_at 5 rfl) (by decide) r_x1 (hw.1 _ _) H (fun H => ?_) (fun H => ?_)
    · exact j_el (T_X3_at_21  hw   H) trivial
    · refine j_aload_n (dk dt_X3_at 6 rfl) rfl ?_
      refine jz_getO (kz := 0) (dk dt_X3_at 7 rfl) fl_X3_11 rfl rfl rfl k_6 ?_
      refine j_iload_n (dk dt_X3_at 8 rfl) rfl ?_
      obtain ⟨a_17, e_17, k_17, H⟩ := H
      obtain ⟨p_17, q_17, H⟩ := H
      refine jz_aald (t := 4) (dk dt_X3_at 9 rfl) e_17 k_17 (by decide) (by decide) p_17 q_17 hw ?_
      refine j_goto 22 (dk dt_X3_at 10 rfl) (by decide) ?_
      exact j_el (T_X3_at_22  hw   H) trivial
def F_X3_unsettled_30  (t0 : Nat) (x2 : Int) (s0 : Int) (s1 : Int) (z : Z) (P : (Int × Int) ⊕ ((Int)) → Prop) : Prop :=
  P (.inl (w32 (s0 + s1), w32 (x2 + 1)))
theorem T_X3_unsettled_30  {t0 : Nat} {x2 : Int} {s0 : Int} {s1 : Int} {z : Z} {P : (Int × Int) ⊕ ((Int)) → Prop} {post : Option Sv ⊕ String → Hp → Prop} (r_x2 : R32 x2) (r_s0 : R32 s0) (r_s1 : R32 s1) (hw : Wz z)  (hl : ∀ (x1 : Int) (x2 : Int), P (.inl (x1, x2)) → R32 x1 → R32 x2 → J mX3_unsettled 1 0 0 post 4 [some (vr (some t0)), some (ii (x1)), some (ii (x2))] [] (cz z)) (he0 : ∀ (x1 : Int), P (.inr x1) → R32 x1 → J mX3_unsettled 1 0 0 post 38 [none, some (ii (x1)), none] [] (cz z)) (H : F_X3_unsettled_30 t0 x2 s0 s1 z P) : J mX3_unsettled 1 0 0 (post) 30 [some (vr (some t0)), none, some (ii (x2))] [ii (s1), ii (s0)] (cz z) := by
  unfold F_X3_unsettled_30 at H
  refine jz_iadd (dk dt_X3_unsettled 18 rfl) ?_
  refine j_istore_n (dk dt_X3_unsettled 19 rfl) (by decide) ?_
  refine jz_iinc (dk dt_X3_unsettled 20 rfl) rfl ?_
  refine j_goto 4 (dk dt_X3_unsettled 21 rfl) (by decide) ?_
  exact j_el (hl _ _ H (r32_w _) (r32_w _)) (And.intro rfl (And.intro rfl (And.intro rfl trivial)))
def L_X3_unsettled_4  (t0 : Nat) (x1 : Int) (x2 : Int) (z : Z) (P : (Int × Int) ⊕ ((Int)) → Prop) : Prop :=
  (zK z t0 = 4 ∧ (if zI z t0 2 ≤ x2 then P (.inr x1) else (∃ a_18, zO z t0 0 = some a_18 ∧ zK z a_18 = 18 ∧ (0 ≤ x2 ∧ x2 < zN z a_18 ∧ (∃ a_19, zO z a_18 x2 = some a_19 ∧ zK z a_19 = 1 ∧ (if zI z a_19 6 = 0 then F_X3_unsettled_30 t0 x2 x1 1 z P else F_X3_unsettled_30 t0 x2 x1 0 z P))))))
theorem U_X3_unsettled_4  {t0 : Nat} {x1 : Int} {x2 : Int} {z : Z} {P : (Int × Int) ⊕ ((Int)) → Prop} {post : Option Sv ⊕ String → Hp → Prop} (r_x1 : R32 x1) (r_x2 : R32 x2) (hw : Wz z)  (hl : ∀ (x1 : Int) (x2 : Int), P (.inl (x1, x2)) → R32 x1 → R32 x2 → J mX3_unsettled 1 0 0 post 4 [some (vr (some t0)), some (ii (x1)), some (ii (x2))] [] (cz z)) (he0 : ∀ (x1 : Int), P (.inr x1) → R32 x1 → J mX3_unsettled 1 0 0 post 38 [none, some (ii (x1)), none] [] (cz z)) (H : L_X3_unsettled_4 t0 x1 x2 z P) : J mX3_unsettled 1 0 0 post 4 [some (vr (some t0)), some (ii (x1)), some (ii (x2))] [] (cz z) := by
  unfold L_X3_unsettled_4 at H
  refine j_iload_n (dk dt_X3_unsettled 4 rfl) rfl ?_
  refine j_aload_n (dk dt_X3_unsettled 5 rfl) rfl ?_
  obtain ⟨k_6, H⟩ := H
  refine jz_getI (kz := 2) (dk dt_X3_unsettled 6 rfl) fl_X3_21 rfl rfl rfl k_6 ?_
  refine jz_icmp_ge 38 (dk dt_X3_unsettled 7 rfl) (by decide) r_x2 (hw.1 _ _) H (fun H => ?_) (fun H => ?_)
  · exact j_el (he0 _ H r_x1) (And.intro rfl trivial)
  · refine j_iload_n (dk dt_X3_unsettled 8 rfl) rfl ?_
    refine j_aload_n (dk dt_X3_unsettled 9 rfl) rfl ?_
    refine jz_getO (kz := 0) (dk dt_X3_unsettled 10 rfl) fl_X3_11 rfl rfl rfl k_6 ?_
    refine j_iload_n (dk dt_X3_unsettled 11 rfl) rfl ?_
    obtain ⟨a_18, e_18, k_18, H⟩ := H
    obtain ⟨p_18, q_18, H⟩ := H
    refine jz_aald (t := 4) (dk dt_X3_unsettled 12 rfl) e_18 k_18 (by decide) (by decide) p_18 q_18 hw ?_
    obtain ⟨a_19, e_19, k_19, H⟩ := H
    refine jz_getI (kz := 6) (dk dt_X3_unsettled 13 rfl) fl_X3_25 rfl rfl e_19 k_19 ?_
    refine jz_if_eq 29 (dk dt_X3_unsettled 14 rfl) (by decide) (hw.1 _ _) H (fun H => ?_) (fun H => ?_)
    · refine j_iconst (v := Int32.ofInt 1) (dk dt_X3_unsettled 17 rfl) (by decide) ?_
      exact j_el (T_X3_unsettled_30 r_x2 r_x1 (by decide) hw  hl he0 H) (And.intro rfl (And.intro rfl trivial))
    · refine j_iconst (v := Int32.ofInt 0) (dk dt_X3_unsettled 15 rfl) (by decide) ?_
      refine j_goto 30 (dk dt_X3_unsettled 16 rfl) (by decide) ?_
      exact j_el (T_X3_unsettled_30 r_x2 r_x1 (by decide) hw  hl he0 H) (And.intro rfl (And.intro rfl trivial))
def F_X3_unsettled_4  (t0 : Nat) (x1 : Int) (x2 : Int) (z : Z) (P : Int → Prop) : Prop :=
  lp (S := Int × Int) (E := (Int)) (fun q P_ => L_X3_unsettled_4 t0 q.1 q.2 z P_) (x1, x2) (fun (x1 : Int) => P x1)
theorem T_X3_unsettled_4  {t0 : Nat} {x1 : Int} {x2 : Int} {z : Z} {P : Int → Prop} (r_x1 : R32 x1) (r_x2 : R32 x2) (hw : Wz z)   (H : F_X3_unsettled_4 t0 x1 x2 z P) : J mX3_unsettled 1 0 0 (nx (QPI (cz z) P)) 4 [some (vr (some t0)), some (ii (x1)), some (ii (x2))] [] (cz z) := by
  unfold F_X3_unsettled_4 at H
  refine lp_J (G := fun q => R32 (q.1) → R32 (q.2) → J mX3_unsettled 1 0 0 (nx (QPI (cz z) P)) 4 [some (vr (some t0)), some (ii ((q.1))), some (ii ((q.2)))] [] (cz z)) (fun q P_ hl_ he_ Hb => ?_) (x1, x2) H r_x1 r_x2
  obtain ⟨x1, x2⟩ := q
  intro r_x1 r_x2
  refine U_X3_unsettled_4 (P := P_) r_x1 r_x2 hw  (fun x1 x2 Hp r_x1 r_x2 => hl_ (x1, x2) Hp r_x1 r_x2) ?_ Hb
  · intro x1 Hp r_x1
    have H := he_ _ Hp
    refine j_iload_n (dk dt_X3_unsettled 22 rfl) rfl ?_
    exact j_ireturn (dk dt_X3_unsettled 23 rfl) rfl rfl ⟨_, rfl, r_x1, rfl, H⟩
def F_X3_unsettled  (t0 : Nat) (z : Z) (P : Int → Prop) : Prop :=
  F_X3_unsettled_4 t0 0 0 z P
theorem T_X3_unsettled  {t0 : Nat} {z : Z} {P : Int → Prop}  (hw : Wz z)  (H : F_X3_unsettled t0 z P) : Con mX3_unsettled 1 0 0 [vr (some t0)] (cz z) (QPI (cz z) P) := by
  refine con_of rfl (Nat.le_of_ble_eq_true rfl) (by decide) ?_
  show J mX3_unsettled 1 0 0 _ 0 [some (vr (some t0)), none, none] [] (cz z)
  unfold F_X3_unsettled at H
  refine j_iconst (v := Int32.ofInt 0) (dk dt_X3_unsettled 0 rfl) (by decide) ?_
  refine j_istore_n (dk dt_X3_unsettled 1 rfl) (by decide) ?_
  refine j_iconst (v := Int32.ofInt 0) (dk dt_X3_unsettled 2 rfl) (by decide) ?_
  refine j_istore_n (dk dt_X3_unsettled 3 rfl) (by decide) ?_
  exact j_el (T_X3_unsettled_4 (by decide) (by decide) hw   H) (And.intro rfl (And.intro rfl (And.intro rfl trivial)))
def F_X11_choose  (t0 : Nat) (x1 : Int) (x2 : Int) (z : Z) (c : Nat) (s : Nat) (P : Int → Z → Prop) (X : Nat → Z → Prop) : Prop :=
  (zK z t0 = 12 ∧ (∃ a_5, zO z t0 4 = some a_5 ∧ zK z a_5 = 4 ∧ F_X3_at a_5 x1 z (fun x_5 => (if x_5 = none then (1 ≤ c ∧ 6 ≤ s ∧ X 0 z) else (∃ a_23, x_5 = some a_23 ∧ zK z a_23 = 1 ∧ (∀ z_23, z_23 = wI z a_23 6 1 → (∃ c_30 s_30, c_30 ≤ c ∧ s_30 ≤ s ∧ F_X11_settled t0 x_5 x2 z_23 c_30 s_30 (fun x_30 z_30 => (zK z_30 t0 = 12 ∧ F_X11_step t0 x_30 z_30 (fun z_33 => (zK z_33 t0 = 12 ∧ (∃ a_40, zO z_33 t0 4 = some a_40 ∧ zK z_33 a_40 = 4 ∧ F_X3_unsettled a_40 z_33 (fun x_40 => P x_40 z_33)))))))))))))
theorem T_X11_choose  {t0 : Nat} {x1 : Int} {x2 : Int} {z : Z} {c : Nat} {s : Nat} {P : Int → Z → Prop} {X : Nat → Z → Prop} (r_x1 : R32 x1) (r_x2 : R32 x2) (hw : Wz z)  (H : F_X11_choose t0 x1 x2 z c s P X) : ConX mX11_choose 7 c s [vr (some t0), ii (x1), ii (x2)] (cz z) (QX (QZI P) X) := by
  refine con_ofX rfl (Nat.le_of_ble_eq_true rfl) (by decide) (by decide) ?_
  show J mX11_choose 7 c s _ 0 [some (vr (some t0)), some (ii (x1)), some (ii (x2)), none] [] (cz z)
  unfold F_X11_choose at H
  refine j_aload_n (dk dt_X11_choose 0 rfl) rfl ?_
  obtain ⟨k_1, H⟩ := H
  refine jz_getO (kz := 4) (dk dt_X11_choose 1 rfl) fl_X11_46 rfl rfl rfl k_1 ?_
  refine j_iload_n (dk dt_X11_choose 2 rfl) rfl ?_
  obtain ⟨a_5, e_5, k_5, H⟩ := H
  refine jz_callV1 (dk dt_X11_choose 3 rfl) vl_X11_288 e_5 (T_X3_at r_x1 hw H) k_5 rfl (by decide) (Nat.zero_le _) (Nat.zero_le _) (Nat.le_of_ble_eq_true rfl) (fun v_5 h_5 P_5 => ?_)
  obtain ⟨x_5, rfl, rfl, H⟩ := P_5
  dsimp only [rs]
  refine j_astore_n (dk dt_X11_choose 4 rfl) (by decide) ?_
  refine j_aload_n (dk dt_X11_choose 5 rfl) rfl ?_
  refine jz_ifnonnull 21 (dk dt_X11_choose 6 rfl) (by decide) H (fun H => ?_) (fun H => ?_)
  · obtain ⟨hc_, hs_, H⟩ := H
    exact j_throw (E := "java/lang/IndexOutOfBoundsException") ⟨117, 119, by decide, (dk dt_X11_choose 7 rfl), (dk dt_X11_choose 8 rfl), (dk dt_X11_choose 9 rfl), (dk dt_X11_choose 10 rfl)⟩ hc_ hs_ (Nat.le_of_ble_eq_true rfl) ⟨0, _, rfl, rfl, hw, H⟩
  · refine j_aload_n (dk dt_X11_choose 11 rfl) rfl ?_
    refine j_iconst (v := Int32.ofInt 1) (dk dt_X11_choose 12 rfl) (by decide) ?_
    obtain ⟨a_23, e_23, k_23, H⟩ := H
    refine jz_putI (kz := 6) (dk dt_X11_choose 13 rfl) fl_X11_305 rfl (nar_z (by decide)) (fit_z (by decide)) rfl e_23 k_23 hw (by decide) (fun w_23 => ?_)
    replace H := H _ rfl
    refine j_aload_n (dk dt_X11_choose 14 rfl) rfl ?_
    refine j_aload_n (dk dt_X11_choose 15 rfl) rfl ?_
    refine j_aload_n (dk dt_X11_choose 16 rfl) rfl ?_
    refine j_iload_n (dk dt_X11_choose 17 rfl) rfl ?_
    obtain ⟨c_30, s_30, hc_30, hs_30, H⟩ := H
    refine jz_callV2 (dk dt_X11_choose 18 rfl) vl_X11_309 rfl (T_X11_settled r_x2 w_23 H) k_1 rfl (by decide) hc_30 hs_30 (Nat.le_of_ble_eq_true rfl) (fun v_30 h_30 P_30 => ?_)
    obtain ⟨x_30, z_30, rfl, rfl, w_30, H⟩ := P_30
    dsimp only [rs]
    obtain ⟨k_33, H⟩ := H
    refine jz_callV1 (dk dt_X11_choose 19 rfl) vl_X11_145 rfl (T_X11_step w_30 H) k_33 rfl (by decide) (Nat.zero_le _) (Nat.zero_le _) (Nat.le_of_ble_eq_true rfl) (fun v_33 h_33 P_33 => ?_)
    obtain ⟨z_33, rfl, rfl, w_33, H⟩ := P_33
    dsimp only [rs]
    refine j_aload_n (dk dt_X11_choose 20 rfl) rfl ?_
    obtain ⟨k_37, H⟩ := H
    refine jz_getO (kz := 4) (dk dt_X11_choose 21 rfl) fl_X11_46 rfl rfl rfl k_37 ?_
    obtain ⟨a_40, e_40, k_40, H⟩ := H
    refine jz_callV0 (dk dt_X11_choose 22 rfl) vl_X11_239 e_40 (T_X3_unsettled w_33 H) k_40 rfl (by decide) (Nat.zero_le _) (Nat.zero_le _) (Nat.le_of_ble_eq_true rfl) (fun v_40 h_40 P_40 => ?_)
    obtain ⟨x_40, rfl, r_40, rfl, H⟩ := P_40
    dsimp only [rs]
    exact j_ireturn (dk dt_X11_choose 23 rfl) rfl rfl ⟨_, _, rfl, r_40, rfl, w_33, H⟩
def F_X2_add  (t0 : Nat) (x1 : Option Nat) (x2 : Int) (x3 : Int) (z : Z) (P : Int → Z → Prop) : Prop :=
  (zK z t0 = 3 ∧ (if zI z t0 4 < 40 then (∃ a_20, zO z t0 0 = some a_20 ∧ zK z a_20 = 21 ∧ (0 ≤ zI z t0 4 ∧ zI z t0 4 < zN z a_20 ∧ ((∀ v, x1 = some v → zK z v = 7) ∧ (∀ z_20, z_20 = wO z a_20 (zI z t0 4) x1 → (∃ a_30, zO z_20 t0 1 = some a_30 ∧ zK z_20 a_30 = 15 ∧ (0 ≤ zI z_20 t0 4 ∧ zI z_20 t0 4 < zN z_20 a_30 ∧ (∀ z_30, z_30 = wI z_20 a_30 (zI z_20 t0 4) x2 → (∃ a_40, zO z_30 t0 2 = some a_40 ∧ zK z_30 a_40 = 15 ∧ (0 ≤ zI z_30 t0 4 ∧ zI z_30 t0 4 < zN z_30 a_40 ∧ (∀ z_40, z_40 = wI z_30 a_40 (zI z_30 t0 4) x3 → F_X2_ancestorsOf t0 x2 z_40 (fun x_57 => F_X2_ancestorsOf t0 x3 z_40 (fun x_63 => (∃ a_67, zO z_40 t0 3 = some a_67 ∧ zK z_40 a_67 = 16 ∧ (0 ≤ zI z_40 t0 4 ∧ zI z_40 t0 4 < zN z_40 a_67 ∧ (∀ z_67, z_67 = wG z_40 a_67 (zI z_40 t0 4) (lOr (lOr (lShl 1 (zI z_40 t0 4)) x_57) x_63) → (∀ z_75, z_75 = wI z_67 t0 4 (w32 (zI z_67 t0 4 + 1)) → P (w32 ((zI z_75 t0 4) - 1)) z_75)))))))))))))))) else P (-1) z))
theorem T_X2_add  {t0 : Nat} {x1 : Option Nat} {x2 : Int} {x3 : Int} {z : Z} {P : Int → Z → Prop} (r_x2 : R32 x2) (r_x3 : R32 x3) (hw : Wz z)  (H : F_X2_add t0 x1 x2 x3 z P) : Con mX2_add 2 0 0 [vr (some t0), vr (x1), ii (x2), ii (x3)] (cz z) (QZI P) := by
  refine con_of rfl (Nat.le_of_ble_eq_true rfl) (by decide) ?_
  show J mX2_add 2 0 0 _ 0 [some (vr (some t0)), some (vr (x1)), some (ii (x2)), some (ii (x3))] [] (cz z)
  unfold F_X2_add at H
  refine j_aload_n (dk dt_X2_add 0 rfl) rfl ?_
  obtain ⟨k_1, H⟩ := H
  refine jz_getI (kz := 4) (dk dt_X2_add 1 rfl) fl_X2_28 rfl rfl rfl k_1 ?_
  refine j_bipush (v := Int32.ofInt 40) (dk dt_X2_add 2 rfl) (by decide) ?_
  refine jz_icmp_lt 11 (dk dt_X2_add 3 rfl) (by decide) (hw.1 _ _) (by decide) H (fun H => ?_) (fun H => ?_)
  · refine j_aload_n (dk dt_X2_add 6 rfl) rfl ?_
    refine jz_getO (kz := 0) (dk dt_X2_add 7 rfl) fl_X2_11 rfl rfl rfl k_1 ?_
    refine j_aload_n (dk dt_X2_add 8 rfl) rfl ?_
    refine jz_getI (kz := 4) (dk dt_X2_add 9 rfl) fl_X2_28 rfl rfl rfl k_1 ?_
    refine j_aload_n (dk dt_X2_add 10 rfl) rfl ?_
    obtain ⟨a_20, e_20, k_20, H⟩ := H
    obtain ⟨p_20, q_20, H⟩ := H
    obtain ⟨v_20, H⟩ := H
    refine jz_aast (t := 7) (dk dt_X2_add 11 rfl) e_20 k_20 (by decide) (by decide) p_20 q_20 hw v_20 (fun w_20 => ?_)
    replace H := H _ rfl
    refine j_aload_n (dk dt_X2_add 12 rfl) rfl ?_
    refine jz_getO (kz := 1) (dk dt_X2_add 13 rfl) fl_X2_17 rfl rfl rfl k_1 ?_
    refine j_aload_n (dk dt_X2_add 14 rfl) rfl ?_
    refine jz_getI (kz := 4) (dk dt_X2_add 15 rfl) fl_X2_28 rfl rfl rfl k_1 ?_
    refine j_iload_n (dk dt_X2_add 16 rfl) rfl ?_
    obtain ⟨a_30, e_30, k_30, H⟩ := H
    obtain ⟨p_30, q_30, H⟩ := H
    refine jz_iast (dk dt_X2_add 17 rfl) e_30 k_30 p_30 q_30 w_20 r_x2 (fun w_30 => ?_)
    replace H := H _ rfl
    refine j_aload_n (dk dt_X2_add 18 rfl) rfl ?_
    refine jz_getO (kz := 2) (dk dt_X2_add 19 rfl) fl_X2_21 rfl rfl rfl k_1 ?_
    refine j_aload_n (dk dt_X2_add 20 rfl) rfl ?_
    refine jz_getI (kz := 4) (dk dt_X2_add 21 rfl) fl_X2_28 rfl rfl rfl k_1 ?_
    refine j_iload_n (dk dt_X2_add 22 rfl) rfl ?_
    obtain ⟨a_40, e_40, k_40, H⟩ := H
    obtain ⟨p_40, q_40, H⟩ := H
    refine jz_iast (dk dt_X2_add 23 rfl) e_40 k_40 p_40 q_40 w_30 r_x3 (fun w_40 => ?_)
    replace H := H _ rfl
    refine j_aload_n (dk dt_X2_add 24 rfl) rfl ?_
    refine jz_getO (kz := 3) (dk dt_X2_add 25 rfl) fl_X2_24 rfl rfl rfl k_1 ?_
    refine j_aload_n (dk dt_X2_add 26 rfl) rfl ?_
    refine jz_getI (kz := 4) (dk dt_X2_add 27 rfl) fl_X2_28 rfl rfl rfl k_1 ?_
    refine j_lconst (v := Int64.ofInt 1) (dk dt_X2_add 28 rfl) (by decide) ?_
    refine j_aload_n (dk dt_X2_add 29 rfl) rfl ?_
    refine jz_getI (kz := 4) (dk dt_X2_add 30 rfl) fl_X2_28 rfl rfl rfl k_1 ?_
    refine jz_lshl (dk dt_X2_add 31 rfl) ?_
    refine j_aload_n (dk dt_X2_add 32 rfl) rfl ?_
    refine j_iload_n (dk dt_X2_add 33 rfl) rfl ?_
    refine jz_callV1 (dk dt_X2_add 34 rfl) vl_X2_32 rfl (T_X2_ancestorsOf r_x2 w_40 H) k_1 rfl (by decide) (Nat.zero_le _) (Nat.zero_le _) (Nat.le_of_ble_eq_true rfl) (fun v_57 h_57 P_57 => ?_)
    obtain ⟨x_57, rfl, r_57, rfl, H⟩ := P_57
    dsimp only [rs]
    refine jz_lor (dk dt_X2_add 35 rfl) ?_
    refine j_aload_n (dk dt_X2_add 36 rfl) rfl ?_
    refine j_iload_n (dk dt_X2_add 37 rfl) rfl ?_
    refine jz_callV1 (dk dt_X2_add 38 rfl) vl_X2_32 rfl (T_X2_ancestorsOf r_x3 w_40 H) k_1 rfl (by decide) (Nat.zero_le _) (Nat.zero_le _) (Nat.le_of_ble_eq_true rfl) (fun v_63 h_63 P_63 => ?_)
    obtain ⟨x_63, rfl, r_63, rfl, H⟩ := P_63
    dsimp only [rs]
    refine jz_lor (dk dt_X2_add 39 rfl) ?_
    obtain ⟨a_67, e_67, k_67, H⟩ := H
    obtain ⟨p_67, q_67, H⟩ := H
    refine jz_last (dk dt_X2_add 40 rfl) e_67 k_67 p_67 q_67 w_40 (r64_t _) (fun w_67 => ?_)
    replace H := H _ rfl
    refine j_aload_n (dk dt_X2_add 41 rfl) rfl ?_
    refine j_dup (dk dt_X2_add 42 rfl) rfl ?_
    refine jz_getI (kz := 4) (dk dt_X2_add 43 rfl) fl_X2_28 rfl rfl rfl k_1 ?_
    refine j_iconst (v := Int32.ofInt 1) (dk dt_X2_add 44 rfl) (by decide) ?_
    refine jz_iadd (dk dt_X2_add 45 rfl) ?_
    refine jz_putI (kz := 4) (dk dt_X2_add 46 rfl) fl_X2_28 rfl rfl rfl rfl rfl k_1 w_67 (r32_w _) (fun w_75 => ?_)
    replace H := H _ rfl
    refine j_aload_n (dk dt_X2_add 47 rfl) rfl ?_
    refine jz_getI (kz := 4) (dk dt_X2_add 48 rfl) fl_X2_28 rfl rfl rfl k_1 ?_
    refine j_iconst (v := Int32.ofInt 1) (dk dt_X2_add 49 rfl) (by decide) ?_
    refine jz_isub (dk dt_X2_add 50 rfl) ?_
    exact j_ireturn (dk dt_X2_add 51 rfl) rfl rfl ⟨_, _, rfl, (r32_w _), rfl, w_75, H⟩
  · refine j_iconst (v := Int32.ofInt (-1)) (dk dt_X2_add 4 rfl) (by decide) ?_
    exact j_ireturn (dk dt_X2_add 5 rfl) rfl rfl ⟨_, _, rfl, (by decide), rfl, hw, H⟩
def F_X11_commit  (t0 : Nat) (z : Z) (c : Nat) (s : Nat) (P : Int → Z → Prop) (X : Nat → Z → Prop) : Prop :=
  (zK z t0 = 12 ∧ (∃ a_4, zO z t0 4 = some a_4 ∧ zK z a_4 = 4 ∧ F_X3_unsettled a_4 z (fun x_4 => (if x_4 ≤ 0 then (∃ a_22, zO z t0 2 = some a_22 ∧ zK z a_22 = 3 ∧ (if zI z a_22 4 < 40 then (∃ a_54, zO z t0 11 = some a_54 ∧ zK z a_54 = 7 ∧ (∃ c_54 s_54, c_54 ≤ c ∧ s_54 ≤ s ∧ F_X6_twin a_54 z c_54 s_54 (fun x_54 z_54 => (zK z_54 t0 = 12 ∧ F_X11_head t0 z_54 (fun x_58 => (∃ a_65, zO z t0 2 = some a_65 ∧ zK z_54 a_65 = 3 ∧ F_X2_add a_65 x_54 x_58 (zI z_54 t0 13) z_54 (fun x_65 z_65 => (∃ a_68, zO z t0 8 = some a_68 ∧ zK z_65 a_68 = 15 ∧ (0 ≤ zI z t0 12 ∧ zI z t0 12 < zN z_65 a_68 ∧ (∀ z_68, z_68 = wI z_65 a_68 (zI z t0 12) x_65 → (zK z_68 t0 = 12 ∧ (∀ z_71, z_71 = wI z_68 t0 13 (-1) → (∃ a_79, zO z_71 t0 4 = some a_79 ∧ zK z_71 a_79 = 4 ∧ (∀ z_79, z_79 = wI z_71 a_79 2 0 → F_X11_head t0 z_79 (fun x_83 => P x_83 z_79))))))))))))))) else (1 ≤ c ∧ 6 ≤ s ∧ X 2 z))) else (1 ≤ c ∧ 6 ≤ s ∧ X 3 z)))))
theorem T_X11_commit  {t0 : Nat} {z : Z} {c : Nat} {s : Nat} {P : Int → Z → Prop} {X : Nat → Z → Prop}  (hw : Wz z)  (H : F_X11_commit t0 z c s P X) : ConX mX11_commit 6 c s [vr (some t0)] (cz z) (QX (QZI P) X) := by
  refine con_ofX rfl (Nat.le_of_ble_eq_true rfl) (by decide) (by decide) ?_
  show J mX11_commit 6 c s _ 0 [some (vr (some t0))] [] (cz z)
  unfold F_X11_commit at H
  refine j_aload_n (dk dt_X11_commit 0 rfl) rfl ?_
  obtain ⟨k_1, H⟩ := H
  refine jz_getO (kz := 4) (dk dt_X11_commit 1 rfl) fl_X11_46 rfl rfl rfl k_1 ?_
  obtain ⟨a_4, e_4, k_4, H⟩ := H
  refine jz_callV0 (dk dt_X11_commit 2 rfl) vl_X11_239 e_4 (T_X3_unsettled hw H) k_4 rfl (by decide) (Nat.zero_le _) (Nat.zero_le _) (Nat.le_of_ble_eq_true rfl) (fun v_4 h_4 P_4 => ?_)
  obtain ⟨x_4, rfl, r_4, rfl, H⟩ := P_4
  dsimp only [rs]
  refine jz_if_le 18 (dk dt_X11_commit 3 rfl) (by decide) r_4 H (fun H => ?_) (fun H => ?_)
  · refine j_aload_n (dk dt_X11_commit 8 rfl) rfl ?_
    refine jz_getO (kz := 2) (dk dt_X11_commit 9 rfl) fl_X11_26 rfl rfl rfl k_1 ?_
    obtain ⟨a_22, e_22, k_22, H⟩ := H
    refine jz_getI (kz := 4) (dk dt_X11_commit 10 rfl) fl_X11_243 rfl rfl e_22 k_22 ?_
    refine j_bipush (v := Int32.ofInt 40) (dk dt_X11_commit 11 rfl) (by decide) ?_
    refine jz_icmp_lt 38 (dk dt_X11_commit 12 rfl) (by decide) (hw.1 _ _) (by decide) H (fun H => ?_) (fun H => ?_)
    · refine j_aload_n (dk dt_X11_commit 17 rfl) rfl ?_
      refine jz_getO (kz := 8) (dk dt_X11_commit 18 rfl) fl_X11_70 rfl rfl rfl k_1 ?_
      refine j_aload_n (dk dt_X11_commit 19 rfl) rfl ?_
      refine jz_getI (kz := 12) (dk dt_X11_commit 20 rfl) fl_X11_246 rfl rfl rfl k_1 ?_
      refine j_aload_n (dk dt_X11_commit 21 rfl) rfl ?_
      refine jz_getO (kz := 2) (dk dt_X11_commit 22 rfl) fl_X11_26 rfl rfl rfl k_1 ?_
      refine j_aload_n (dk dt_X11_commit 23 rfl) rfl ?_
      refine jz_getO (kz := 11) (dk dt_X11_commit 24 rfl) fl_X11_104 rfl rfl rfl k_1 ?_
      obtain ⟨a_54, e_54, k_54, H⟩ := H
      obtain ⟨c_54, s_54, hc_54, hs_54, H⟩ := H
      refine jz_callV0 (dk dt_X11_commit 25 rfl) vl_X11_100 e_54 (T_X6_twin hw H) k_54 rfl (by decide) hc_54 hs_54 (Nat.le_of_ble_eq_true rfl) (fun v_54 h_54 P_54 => ?_)
      obtain ⟨x_54, z_54, rfl, rfl, w_54, H⟩ := P_54
      dsimp only [rs]
      refine j_aload_n (dk dt_X11_commit 26 rfl) rfl ?_
      obtain ⟨k_58, H⟩ := H
      refine jz_callV0 (dk dt_X11_commit 27 rfl) vl_X11_249 rfl (T_X11_head w_54 H) k_58 rfl (by decide) (Nat.zero_le _) (Nat.zero_le _) (Nat.le_of_ble_eq_true rfl) (fun v_58 h_58 P_58 => ?_)
      obtain ⟨x_58, rfl, r_58, rfl, H⟩ := P_58
      dsimp only [rs]
      refine j_aload_n (dk dt_X11_commit 28 rfl) rfl ?_
      refine jz_getI (kz := 13) (dk dt_X11_commit 29 rfl) fl_X11_77 rfl rfl rfl k_58 ?_
      obtain ⟨a_65, e_65, k_65, H⟩ := H
      refine jz_callV3 (dk dt_X11_commit 30 rfl) vl_X11_96 e_65 (T_X2_add r_58 (w_54.1 _ _) w_54 H) k_65 rfl (by decide) (Nat.zero_le _) (Nat.zero_le _) (Nat.le_of_ble_eq_true rfl) (fun v_65 h_65 P_65 => ?_)
      obtain ⟨x_65, z_65, rfl, r_65, rfl, w_65, H⟩ := P_65
      dsimp only [rs]
      obtain ⟨a_68, e_68, k_68, H⟩ := H
      obtain ⟨p_68, q_68, H⟩ := H
      refine jz_iast (dk dt_X11_commit 31 rfl) e_68 k_68 p_68 q_68 w_65 r_65 (fun w_68 => ?_)
      replace H := H _ rfl
      refine j_aload_n (dk dt_X11_commit 32 rfl) rfl ?_
      refine j_iconst (v := Int32.ofInt (-1)) (dk dt_X11_commit 33 rfl) (by decide) ?_
      obtain ⟨k_71, H⟩ := H
      refine jz_putI (kz := 13) (dk dt_X11_commit 34 rfl) fl_X11_77 rfl rfl rfl rfl rfl k_71 w_68 (by decide) (fun w_71 => ?_)
      replace H := H _ rfl
      refine j_aload_n (dk dt_X11_commit 35 rfl) rfl ?_
      refine jz_getO (kz := 4) (dk dt_X11_commit 36 rfl) fl_X11_46 rfl rfl rfl k_71 ?_
      refine j_iconst (v := Int32.ofInt 0) (dk dt_X11_commit 37 rfl) (by decide) ?_
      obtain ⟨a_79, e_79, k_79, H⟩ := H
      refine jz_putI (kz := 2) (dk dt_X11_commit 38 rfl) fl_X11_252 rfl rfl rfl rfl e_79 k_79 w_71 (by decide) (fun w_79 => ?_)
      replace H := H _ rfl
      refine j_aload_n (dk dt_X11_commit 39 rfl) rfl ?_
      refine jz_callV0 (dk dt_X11_commit 40 rfl) vl_X11_249 rfl (T_X11_head w_79 H) k_71 rfl (by decide) (Nat.zero_le _) (Nat.zero_le _) (Nat.le_of_ble_eq_true rfl) (fun v_83 h_83 P_83 => ?_)
      obtain ⟨x_83, rfl, r_83, rfl, H⟩ := P_83
      dsimp only [rs]
      exact j_ireturn (dk dt_X11_commit 41 rfl) rfl rfl ⟨_, _, rfl, r_83, rfl, w_79, H⟩
    · obtain ⟨hc_, hs_, H⟩ := H
      exact j_throw (E := "java/lang/UnsupportedOperationException") ⟨138, 140, by decide, (dk dt_X11_commit 13 rfl), (dk dt_X11_commit 14 rfl), (dk dt_X11_commit 15 rfl), (dk dt_X11_commit 16 rfl)⟩ hc_ hs_ (Nat.le_of_ble_eq_true rfl) ⟨2, _, rfl, rfl, hw, H⟩
  · obtain ⟨hc_, hs_, H⟩ := H
    exact j_throw (E := "java/lang/IllegalStateException") ⟨167, 169, by decide, (dk dt_X11_commit 4 rfl), (dk dt_X11_commit 5 rfl), (dk dt_X11_commit 6 rfl), (dk dt_X11_commit 7 rfl)⟩ hc_ hs_ (Nat.le_of_ble_eq_true rfl) ⟨3, _, rfl, rfl, hw, H⟩
def F_X11_conflict_91  (s0 : Int) (z : Z) (P : Int → Prop) : Prop :=
  P s0
theorem T_X11_conflict_91  {s0 : Int} {z : Z} {P : Int → Prop} (r_s0 : R32 s0) (hw : Wz z)   (H : F_X11_conflict_91 s0 z P) : J mX11_conflict 2 0 0 (nx (QPI (cz z) P)) 91 [none, none, none, none] [ii (s0)] (cz z) := by
  unfold F_X11_conflict_91 at H
  exact j_ireturn (dk dt_X11_conflict 34 rfl) rfl rfl ⟨_, rfl, r_s0, rfl, H⟩
def F_X11_conflict  (t0 : Nat) (x1 : Int) (x2 : Int) (z : Z) (P : Int → Prop) : Prop :=
  (zK z t0 = 12 ∧ (∃ a_5, zO z t0 4 = some a_5 ∧ zK z a_5 = 4 ∧ F_X3_at a_5 x1 z (fun x_5 => (if x_5 = none then P (-1) else (if x2 = 0 then (∃ a_49, x_5 = some a_49 ∧ zK z a_49 = 1 ∧ P (zI z a_49 0)) else (if x2 = 1 then (∃ a_59, x_5 = some a_59 ∧ zK z a_59 = 1 ∧ (∃ a_62, zO z t0 11 = some a_62 ∧ zK z a_62 = 7 ∧ F_X6_placeOf a_62 0 (zI z a_59 1) z (fun x_62 => P x_62))) else (if x2 = 2 then (∃ a_72, x_5 = some a_72 ∧ zK z a_72 = 1 ∧ (∃ a_75, zO z t0 11 = some a_75 ∧ zK z a_75 = 7 ∧ F_X6_placeOf a_75 1 (zI z a_72 2) z (fun x_75 => P x_75))) else (if x2 = 3 then (∃ a_80, x_5 = some a_80 ∧ zK z a_80 = 1 ∧ (if zI z a_80 6 = 0 then F_X11_conflict_91 0 z P else F_X11_conflict_91 1 z P)) else P (-1)))))))))
theorem T_X11_conflict  {t0 : Nat} {x1 : Int} {x2 : Int} {z : Z} {P : Int → Prop} (r_x1 : R32 x1) (r_x2 : R32 x2) (hw : Wz z)  (H : F_X11_conflict t0 x1 x2 z P) : Con mX11_conflict 2 0 0 [vr (some t0), ii (x1), ii (x2)] (cz z) (QPI (cz z) P) := by
  refine con_of rfl (Nat.le_of_ble_eq_true rfl) (by decide) ?_
  show J mX11_conflict 2 0 0 _ 0 [some (vr (some t0)), some (ii (x1)), some (ii (x2)), none] [] (cz z)
  unfold F_X11_conflict at H
  refine j_aload_n (dk dt_X11_conflict 0 rfl) rfl ?_
  obtain ⟨k_1, H⟩ := H
  refine jz_getO (kz := 4) (dk dt_X11_conflict 1 rfl) fl_X11_46 rfl rfl rfl k_1 ?_
  refine j_iload_n (dk dt_X11_conflict 2 rfl) rfl ?_
  obtain ⟨a_5, e_5, k_5, H⟩ := H
  refine jz_callV1 (dk dt_X11_conflict 3 rfl) vl_X11_288 e_5 (T_X3_at r_x1 hw H) k_5 rfl (by decide) (Nat.zero_le _) (Nat.zero_le _) (Nat.le_of_ble_eq_true rfl) (fun v_5 h_5 P_5 => ?_)
  obtain ⟨x_5, rfl, rfl, H⟩ := P_5
  dsimp only [rs]
  refine j_astore_n (dk dt_X11_conflict 4 rfl) (by decide) ?_
  refine j_aload_n (dk dt_X11_conflict 5 rfl) rfl ?_
  refine jz_ifnonnull 15 (dk dt_X11_conflict 6 rfl) (by decide) H (fun H => ?_) (fun H => ?_)
  · refine j_iconst (v := Int32.ofInt (-1)) (dk dt_X11_conflict 7 rfl) (by decide) ?_
    exact j_ireturn (dk dt_X11_conflict 8 rfl) rfl rfl ⟨_, rfl, (by decide), rfl, H⟩
  · refine j_iload_n (dk dt_X11_conflict 9 rfl) rfl ?_
    by_cases y_16_0 : x2 = 0
    · rw [if_pos y_16_0] at H
      refine jz_tabIn 0 48 (dk dt_X11_conflict 10 rfl) r_x2 y_16_0 (by decide) (by decide) rfl (by decide) ?_
      refine j_aload_n (dk dt_X11_conflict 11 rfl) rfl ?_
      obtain ⟨a_49, e_49, k_49, H⟩ := H
      refine jz_getI (kz := 0) (dk dt_X11_conflict 12 rfl) fl_X11_291 rfl rfl e_49 k_49 ?_
      exact j_ireturn (dk dt_X11_conflict 13 rfl) rfl rfl ⟨_, rfl, (hw.1 _ _), rfl, H⟩
    rw [if_neg y_16_0] at H
    by_cases y_16_1 : x2 = 1
    · rw [if_pos y_16_1] at H
      refine jz_tabIn 1 53 (dk dt_X11_conflict 10 rfl) r_x2 y_16_1 (by decide) (by decide) rfl (by decide) ?_
      refine j_aload_n (dk dt_X11_conflict 14 rfl) rfl ?_
      refine jz_getO (kz := 11) (dk dt_X11_conflict 15 rfl) fl_X11_104 rfl rfl rfl k_1 ?_
      refine j_iconst (v := Int32.ofInt 0) (dk dt_X11_conflict 16 rfl) (by decide) ?_
      refine j_aload_n (dk dt_X11_conflict 17 rfl) rfl ?_
      obtain ⟨a_59, e_59, k_59, H⟩ := H
      refine jz_getI (kz := 1) (dk dt_X11_conflict 18 rfl) fl_X11_296 rfl rfl e_59 k_59 ?_
      obtain ⟨a_62, e_62, k_62, H⟩ := H
      refine jz_callV2 (dk dt_X11_conflict 19 rfl) vl_X11_299 e_62 (T_X6_placeOf (by decide) (hw.1 _ _) hw H) k_62 rfl (by decide) (Nat.zero_le _) (Nat.zero_le _) (Nat.le_of_ble_eq_true rfl) (fun v_62 h_62 P_62 => ?_)
      obtain ⟨x_62, rfl, r_62, rfl, H⟩ := P_62
      dsimp only [rs]
      exact j_ireturn (dk dt_X11_conflict 20 rfl) rfl rfl ⟨_, rfl, r_62, rfl, H⟩
    rw [if_neg y_16_1] at H
    by_cases y_16_2 : x2 = 2
    · rw [if_pos y_16_2] at H
      refine jz_tabIn 2 66 (dk dt_X11_conflict 10 rfl) r_x2 y_16_2 (by decide) (by decide) rfl (by decide) ?_
      refine j_aload_n (dk dt_X11_conflict 21 rfl) rfl ?_
      refine jz_getO (kz := 11) (dk dt_X11_conflict 22 rfl) fl_X11_104 rfl rfl rfl k_1 ?_
      refine j_iconst (v := Int32.ofInt 1) (dk dt_X11_conflict 23 rfl) (by decide) ?_
      refine j_aload_n (dk dt_X11_conflict 24 rfl) rfl ?_
      obtain ⟨a_72, e_72, k_72, H⟩ := H
      refine jz_getI (kz := 2) (dk dt_X11_conflict 25 rfl) fl_X11_302 rfl rfl e_72 k_72 ?_
      obtain ⟨a_75, e_75, k_75, H⟩ := H
      refine jz_callV2 (dk dt_X11_conflict 26 rfl) vl_X11_299 e_75 (T_X6_placeOf (by decide) (hw.1 _ _) hw H) k_75 rfl (by decide) (Nat.zero_le _) (Nat.zero_le _) (Nat.le_of_ble_eq_true rfl) (fun v_75 h_75 P_75 => ?_)
      obtain ⟨x_75, rfl, r_75, rfl, H⟩ := P_75
      dsimp only [rs]
      exact j_ireturn (dk dt_X11_conflict 27 rfl) rfl rfl ⟨_, rfl, r_75, rfl, H⟩
    rw [if_neg y_16_2] at H
    by_cases y_16_3 : x2 = 3
    · rw [if_pos y_16_3] at H
      refine jz_tabIn 3 79 (dk dt_X11_conflict 10 rfl) r_x2 y_16_3 (by decide) (by decide) rfl (by decide) ?_
      refine j_aload_n (dk dt_X11_conflict 28 rfl) rfl ?_
      obtain ⟨a_80, e_80, k_80, H⟩ := H
      refine jz_getI (kz := 6) (dk dt_X11_conflict 29 rfl) fl_X11_305 rfl rfl e_80 k_80 ?_
      refine jz_if_eq 90 (dk dt_X11_conflict 30 rfl) (by decide) (hw.1 _ _) H (fun H => ?_) (fun H => ?_)
      · refine j_iconst (v := Int32.ofInt 0) (dk dt_X11_conflict 33 rfl) (by decide) ?_
        exact j_el (T_X11_conflict_91 (by decide) hw   H) trivial
      · refine j_iconst (v := Int32.ofInt 1) (dk dt_X11_conflict 31 rfl) (by decide) ?_
        refine j_goto 91 (dk dt_X11_conflict 32 rfl) (by decide) ?_
        exact j_el (T_X11_conflict_91 (by decide) hw   H) trivial
    rw [if_neg y_16_3] at H
    refine jz_tabOut 92 (dk dt_X11_conflict 10 rfl) r_x2 (by omega) (by decide) ?_
    refine j_iconst (v := Int32.ofInt (-1)) (dk dt_X11_conflict 35 rfl) (by decide) ?_
    exact j_ireturn (dk dt_X11_conflict 36 rfl) rfl rfl ⟨_, rfl, (by decide), rfl, H⟩
def F_X11_partsOf_13  (s0 : Int) (z : Z) (P : Int → Prop) : Prop :=
  P s0
theorem T_X11_partsOf_13  {s0 : Int} {z : Z} {P : Int → Prop} (r_s0 : R32 s0) (hw : Wz z)   (H : F_X11_partsOf_13 s0 z P) : J mX11_partsOf 1 0 0 (nx (QPI (cz z) P)) 13 [none] [ii (s0)] (cz z) := by
  unfold F_X11_partsOf_13 at H
  exact j_ireturn (dk dt_X11_partsOf 7 rfl) rfl rfl ⟨_, rfl, r_s0, rfl, H⟩
def F_X11_partsOf  (x0 : Option Nat) (z : Z) (P : Int → Prop) : Prop :=
  (if x0 = none then F_X11_partsOf_13 0 z P else (∃ a_5, x0 = some a_5 ∧ zK z a_5 = 2 ∧ (∃ a_8, zO z a_5 2 = some a_8 ∧ zK z a_8 = 20 ∧ F_X11_partsOf_13 (zN z a_8) z P)))
theorem T_X11_partsOf  {x0 : Option Nat} {z : Z} {P : Int → Prop}  (hw : Wz z)  (H : F_X11_partsOf x0 z P) : Con mX11_partsOf 1 0 0 [vr (x0)] (cz z) (QPI (cz z) P) := by
  refine con_of rfl (Nat.le_of_ble_eq_true rfl) (by decide) ?_
  show J mX11_partsOf 1 0 0 _ 0 [some (vr (x0))] [] (cz z)
  unfold F_X11_partsOf at H
  refine j_aload_n (dk dt_X11_partsOf 0 rfl) rfl ?_
  refine jz_ifnull 12 (dk dt_X11_partsOf 1 rfl) (by decide) H (fun H => ?_) (fun H => ?_)
  · refine j_iconst (v := Int32.ofInt 0) (dk dt_X11_partsOf 6 rfl) (by decide) ?_
    exact j_el (T_X11_partsOf_13 (by decide) hw   H) trivial
  · refine j_aload_n (dk dt_X11_partsOf 2 rfl) rfl ?_
    obtain ⟨a_5, e_5, k_5, H⟩ := H
    refine jz_getO (kz := 2) (dk dt_X11_partsOf 3 rfl) fl_X11_375 rfl rfl e_5 k_5 ?_
    obtain ⟨a_8, e_8, k_8, H⟩ := H
    refine jz_alen (t := 6) (dk dt_X11_partsOf 4 rfl) e_8 k_8 (by decide) hw ?_
    refine j_goto 13 (dk dt_X11_partsOf 5 rfl) (by decide) ?_
    exact j_el (T_X11_partsOf_13 (r32_len hw _) hw   H) trivial
def L_X11_partsWithin_15  (t0 : Nat) (x1 : Int) (x2 : Int) (x3 : Int) (x4 : Int) (x5 : Int) (x6 : Int) (x7 : Int) (z : Z) (P : (Int × Int) ⊕ ((Int)) → Prop) : Prop :=
  (if x4 ≤ x7 then P (.inr x5) else (zK z t0 = 12 ∧ (∃ a_36, zO z t0 11 = some a_36 ∧ zK z a_36 = 7 ∧ F_X6_at a_36 (w32 (x1 + x6)) (w32 (x2 + x7)) z (fun x_36 => F_X11_partsOf x_36 z (fun x_39 => P (.inl (w32 (x5 + x_39), w32 (x7 + 1))))))))
theorem U_X11_partsWithin_15  {t0 : Nat} {x1 : Int} {x2 : Int} {x3 : Int} {x4 : Int} {x5 : Int} {x6 : Int} {x7 : Int} {z : Z} {P : (Int × Int) ⊕ ((Int)) → Prop} {post : Option Sv ⊕ String → Hp → Prop} (r_x1 : R32 x1) (r_x2 : R32 x2) (r_x3 : R32 x3) (r_x4 : R32 x4) (r_x5 : R32 x5) (r_x6 : R32 x6) (r_x7 : R32 x7) (hw : Wz z)  (hl : ∀ (x5 : Int) (x7 : Int), P (.inl (x5, x7)) → R32 x5 → R32 x7 → J mX11_partsWithin 3 0 0 post 15 [some (vr (some t0)), some (ii (x1)), some (ii (x2)), some (ii (x3)), some (ii (x4)), some (ii (x5)), some (ii (x6)), some (ii (x7))] [] (cz z)) (he0 : ∀ (x5 : Int), P (.inr x5) → R32 x5 → J mX11_partsWithin 3 0 0 post 51 [some (vr (some t0)), some (ii (x1)), some (ii (x2)), some (ii (x3)), some (ii (x4)), some (ii (x5)), some (ii (x6)), none] [] (cz z)) (H : L_X11_partsWithin_15 t0 x1 x2 x3 x4 x5 x6 x7 z P) : J mX11_partsWithin 3 0 0 post 15 [some (vr (some t0)), some (ii (x1)), some (ii (x2)), some (ii (x3)), some (ii (x4)), some (ii (x5)), some (ii (x6)), some (ii (x7))] [] (cz z) := by
  unfold L_X11_partsWithin_15 at H
  refine j_iload (dk dt_X11_partsWithin 9 rfl) rfl ?_
  refine j_iload (dk dt_X11_partsWithin 10 rfl) rfl ?_
  refine jz_icmp_ge 51 (dk dt_X11_partsWithin 11 rfl) (by decide) r_x7 r_x4 H (fun H => ?_) (fun H => ?_)
  · exact j_el (he0 _ H r_x5) (And.intro rfl (And.intro rfl (And.intro rfl (And.intro rfl (And.intro rfl (And.intro rfl (And.intro rfl trivial)))))))
  · refine j_iload (dk dt_X11_partsWithin 12 rfl) rfl ?_
    refine j_aload_n (dk dt_X11_partsWithin 13 rfl) rfl ?_
    obtain ⟨k_25, H⟩ := H
    refine jz_getO (kz := 11) (dk dt_X11_partsWithin 14 rfl) fl_X11_104 rfl rfl rfl k_25 ?_
    refine j_iload_n (dk dt_X11_partsWithin 15 rfl) rfl ?_
    refine j_iload (dk dt_X11_partsWithin 16 rfl) rfl ?_
    refine jz_iadd (dk dt_X11_partsWithin 17 rfl) ?_
    refine j_iload_n (dk dt_X11_partsWithin 18 rfl) rfl ?_
    refine j_iload (dk dt_X11_partsWithin 19 rfl) rfl ?_
    refine jz_iadd (dk dt_X11_partsWithin 20 rfl) ?_
    obtain ⟨a_36, e_36, k_36, H⟩ := H
    refine jz_callV2 (dk dt_X11_partsWithin 21 rfl) vl_X11_152 e_36 (T_X6_at (r32_w _) (r32_w _) hw H) k_36 rfl (by decide) (Nat.zero_le _) (Nat.zero_le _) (Nat.le_of_ble_eq_true rfl) (fun v_36 h_36 P_36 => ?_)
    obtain ⟨x_36, rfl, rfl, H⟩ := P_36
    dsimp only [rs]
    refine j_callS1 (dk dt_X11_partsWithin 22 rfl) sl_X11_130 (T_X11_partsOf hw H) rfl (by decide) (Nat.zero_le _) (Nat.zero_le _) (Nat.le_of_ble_eq_true rfl) (fun v_39 h_39 P_39 => ?_)
    obtain ⟨x_39, rfl, r_39, rfl, H⟩ := P_39
    dsimp only [rs]
    refine jz_iadd (dk dt_X11_partsWithin 23 rfl) ?_
    refine j_istore (dk dt_X11_partsWithin 24 rfl) (by decide) ?_
    refine jz_iinc (dk dt_X11_partsWithin 25 rfl) rfl ?_
    refine j_goto 15 (dk dt_X11_partsWithin 26 rfl) (by decide) ?_
    exact j_el (hl _ _ H (r32_w _) (r32_w _)) (And.intro rfl (And.intro rfl (And.intro rfl (And.intro rfl (And.intro rfl (And.intro rfl (And.intro rfl (And.intro rfl trivial))))))))
def F_X11_partsWithin_15  (t0 : Nat) (x1 : Int) (x2 : Int) (x3 : Int) (x4 : Int) (x5 : Int) (x6 : Int) (x7 : Int) (z : Z) (P : (Int × Int) ⊕ ((Int)) → Prop) : Prop :=
  lp (S := Int × Int) (E := (Int)) (fun q P_ => L_X11_partsWithin_15 t0 x1 x2 x3 x4 q.1 x6 q.2 z P_) (x5, x7) (fun (x5 : Int) => P (.inl (x5, w32 (x6 + 1))))
theorem T_X11_partsWithin_15  {t0 : Nat} {x1 : Int} {x2 : Int} {x3 : Int} {x4 : Int} {x5 : Int} {x6 : Int} {x7 : Int} {z : Z} {P : (Int × Int) ⊕ ((Int)) → Prop} {post : Option Sv ⊕ String → Hp → Prop} (r_x1 : R32 x1) (r_x2 : R32 x2) (r_x3 : R32 x3) (r_x4 : R32 x4) (r_x5 : R32 x5) (r_x6 : R32 x6) (r_x7 : R32 x7) (hw : Wz z)  (hl : ∀ (x5 : Int) (x6 : Int), P (.inl (x5, x6)) → R32 x5 → R32 x6 → J mX11_partsWithin 3 0 0 post 6 [some (vr (some t0)), some (ii (x1)), some (ii (x2)), some (ii (x3)), some (ii (x4)), some (ii (x5)), some (ii (x6)), none] [] (cz z)) (he0 : ∀ (x5 : Int), P (.inr x5) → R32 x5 → J mX11_partsWithin 3 0 0 post 57 [none, none, none, none, none, some (ii (x5)), none, none] [] (cz z)) (H : F_X11_partsWithin_15 t0 x1 x2 x3 x4 x5 x6 x7 z P) : J mX11_partsWithin 3 0 0 (post) 15 [some (vr (some t0)), some (ii (x1)), some (ii (x2)), some (ii (x3)), some (ii (x4)), some (ii (x5)), some (ii (x6)), some (ii (x7))] [] (cz z) := by
  unfold F_X11_partsWithin_15 at H
  refine lp_J (G := fun q => R32 (q.1) → R32 (q.2) → J mX11_partsWithin 3 0 0 (post) 15 [some (vr (some t0)), some (ii (x1)), some (ii (x2)), some (ii (x3)), some (ii (x4)), some (ii ((q.1))), some (ii (x6)), some (ii ((q.2)))] [] (cz z)) (fun q P_ hl_ he_ Hb => ?_) (x5, x7) H r_x5 r_x7
  obtain ⟨x5, x7⟩ := q
  intro r_x5 r_x7
  refine U_X11_partsWithin_15 (P := P_) r_x1 r_x2 r_x3 r_x4 r_x5 r_x6 r_x7 hw  (fun x5 x7 Hp r_x5 r_x7 => hl_ (x5, x7) Hp r_x5 r_x7) ?_ Hb
  · intro x5 Hp r_x5
    have H := he_ _ Hp
    refine jz_iinc (dk dt_X11_partsWithin 27 rfl) rfl ?_
    refine j_goto 6 (dk dt_X11_partsWithin 28 rfl) (by decide) ?_
    exact j_el (hl _ _ H r_x5 (r32_w _)) (And.intro rfl (And.intro rfl (And.intro rfl (And.intro rfl (And.intro rfl (And.intro rfl (And.intro rfl trivial)))))))
def L_X11_partsWithin_6  (t0 : Nat) (x1 : Int) (x2 : Int) (x3 : Int) (x4 : Int) (x5 : Int) (x6 : Int) (z : Z) (P : (Int × Int) ⊕ ((Int)) → Prop) : Prop :=
  (if x3 ≤ x6 then P (.inr x5) else F_X11_partsWithin_15 t0 x1 x2 x3 x4 x5 x6 0 z P)
theorem U_X11_partsWithin_6  {t0 : Nat} {x1 : Int} {x2 : Int} {x3 : Int} {x4 : Int} {x5 : Int} {x6 : Int} {z : Z} {P : (Int × Int) ⊕ ((Int)) → Prop} {post : Option Sv ⊕ String → Hp → Prop} (r_x1 : R32 x1) (r_x2 : R32 x2) (r_x3 : R32 x3) (r_x4 : R32 x4) (r_x5 : R32 x5) (r_x6 : R32 x6) (hw : Wz z)  (hl : ∀ (x5 : Int) (x6 : Int), P (.inl (x5, x6)) → R32 x5 → R32 x6 → J mX11_partsWithin 3 0 0 post 6 [some (vr (some t0)), some (ii (x1)), some (ii (x2)), some (ii (x3)), some (ii (x4)), some (ii (x5)), some (ii (x6)), none] [] (cz z)) (he0 : ∀ (x5 : Int), P (.inr x5) → R32 x5 → J mX11_partsWithin 3 0 0 post 57 [none, none, none, none, none, some (ii (x5)), none, none] [] (cz z)) (H : L_X11_partsWithin_6 t0 x1 x2 x3 x4 x5 x6 z P) : J mX11_partsWithin 3 0 0 post 6 [some (vr (some t0)), some (ii (x1)), some (ii (x2)), some (ii (x3)), some (ii (x4)), some (ii (x5)), some (ii (x6)), none] [] (cz z) := by
  unfold L_X11_partsWithin_6 at H
  refine j_iload (dk dt_X11_partsWithin 4 rfl) rfl ?_
  refine j_iload_n (dk dt_X11_partsWithin 5 rfl) rfl ?_
  refine jz_icmp_ge 57 (dk dt_X11_partsWithin 6 rfl) (by decide) r_x6 r_x3 H (fun H => ?_) (fun H => ?_)
  · exact j_el (he0 _ H r_x5) (And.intro rfl trivial)
  · refine j_iconst (v := Int32.ofInt 0) (dk dt_X11_partsWithin 7 rfl) (by decide) ?_
    refine j_istore (dk dt_X11_partsWithin 8 rfl) (by decide) ?_
    exact j_el (T_X11_partsWithin_15 r_x1 r_x2 r_x3 r_x4 r_x5 r_x6 (by decide) hw  hl he0 H) (And.intro rfl (And.intro rfl (And.intro rfl (And.intro rfl (And.intro rfl (And.intro rfl (And.intro rfl (And.intro rfl trivial))))))))
def F_X11_partsWithin_6  (t0 : Nat) (x1 : Int) (x2 : Int) (x3 : Int) (x4 : Int) (x5 : Int) (x6 : Int) (z : Z) (P : Int → Prop) : Prop :=
  lp (S := Int × Int) (E := (Int)) (fun q P_ => L_X11_partsWithin_6 t0 x1 x2 x3 x4 q.1 q.2 z P_) (x5, x6) (fun (x5 : Int) => P x5)
theorem T_X11_partsWithin_6  {t0 : Nat} {x1 : Int} {x2 : Int} {x3 : Int} {x4 : Int} {x5 : Int} {x6 : Int} {z : Z} {P : Int → Prop} (r_x1 : R32 x1) (r_x2 : R32 x2) (r_x3 : R32 x3) (r_x4 : R32 x4) (r_x5 : R32 x5) (r_x6 : R32 x6) (hw : Wz z)   (H : F_X11_partsWithin_6 t0 x1 x2 x3 x4 x5 x6 z P) : J mX11_partsWithin 3 0 0 (nx (QPI (cz z) P)) 6 [some (vr (some t0)), some (ii (x1)), some (ii (x2)), some (ii (x3)), some (ii (x4)), some (ii (x5)), some (ii (x6)), none] [] (cz z) := by
  unfold F_X11_partsWithin_6 at H
  refine lp_J (G := fun q => R32 (q.1) → R32 (q.2) → J mX11_partsWithin 3 0 0 (nx (QPI (cz z) P)) 6 [some (vr (some t0)), some (ii (x1)), some (ii (x2)), some (ii (x3)), some (ii (x4)), some (ii ((q.1))), some (ii ((q.2))), none] [] (cz z)) (fun q P_ hl_ he_ Hb => ?_) (x5, x6) H r_x5 r_x6
  obtain ⟨x5, x6⟩ := q
  intro r_x5 r_x6
  refine U_X11_partsWithin_6 (P := P_) r_x1 r_x2 r_x3 r_x4 r_x5 r_x6 hw  (fun x5 x6 Hp r_x5 r_x6 => hl_ (x5, x6) Hp r_x5 r_x6) ?_ Hb
  · intro x5 Hp r_x5
    have H := he_ _ Hp
    refine j_iload (dk dt_X11_partsWithin 29 rfl) rfl ?_
    exact j_ireturn (dk dt_X11_partsWithin 30 rfl) rfl rfl ⟨_, rfl, r_x5, rfl, H⟩
def F_X11_partsWithin  (t0 : Nat) (x1 : Int) (x2 : Int) (x3 : Int) (x4 : Int) (z : Z) (P : Int → Prop) : Prop :=
  F_X11_partsWithin_6 t0 x1 x2 x3 x4 0 0 z P
theorem T_X11_partsWithin  {t0 : Nat} {x1 : Int} {x2 : Int} {x3 : Int} {x4 : Int} {z : Z} {P : Int → Prop} (r_x1 : R32 x1) (r_x2 : R32 x2) (r_x3 : R32 x3) (r_x4 : R32 x4) (hw : Wz z)  (H : F_X11_partsWithin t0 x1 x2 x3 x4 z P) : Con mX11_partsWithin 3 0 0 [vr (some t0), ii (x1), ii (x2), ii (x3), ii (x4)] (cz z) (QPI (cz z) P) := by
  refine con_of rfl (Nat.le_of_ble_eq_true rfl) (by decide) ?_
  show J mX11_partsWithin 3 0 0 _ 0 [some (vr (some t0)), some (ii (x1)), some (ii (x2)), some (ii (x3)), some (ii (x4)), none, none, none] [] (cz z)
  unfold F_X11_partsWithin at H
  refine j_iconst (v := Int32.ofInt 0) (dk dt_X11_partsWithin 0 rfl) (by decide) ?_
  refine j_istore (dk dt_X11_partsWithin 1 rfl) (by decide) ?_
  refine j_iconst (v := Int32.ofInt 0) (dk dt_X11_partsWithin 2 rfl) (by decide) ?_
  refine j_istore (dk dt_X11_partsWithin 3 rfl) (by decide) ?_
  exact j_el (T_X11_partsWithin_6 r_x1 r_x2 r_x3 r_x4 (by decide) (by decide) hw   H) (And.intro rfl (And.intro rfl (And.intro rfl (And.intro rfl (And.intro rfl (And.intro rfl (And.intro rfl trivial)))))))
def F_X11_isFormula_17  (s0 : Int) (z : Z) (P : Int → Prop) : Prop :=
  (Z1 s0 ∧ P s0)
theorem T_X11_isFormula_17  {s0 : Int} {z : Z} {P : Int → Prop} (r_s0 : R32 s0) (hw : Wz z)   (H : F_X11_isFormula_17 s0 z P) : J mX11_isFormula 1 0 0 (nx (QPI (cz z) P)) 17 [none] [ii (s0)] (cz z) := by
  unfold F_X11_isFormula_17 at H
  obtain ⟨hz_, H⟩ := H
  exact j_ireturn (dk dt_X11_isFormula 9 rfl) rfl (nar_z hz_) ⟨_, rfl, r_s0, rfl, H⟩
def F_X11_isFormula_16  (z : Z) (P : Int → Prop) : Prop :=
  F_X11_isFormula_17 0 z P
theorem T_X11_isFormula_16  {z : Z} {P : Int → Prop}  (hw : Wz z)   (H : F_X11_isFormula_16 z P) : J mX11_isFormula 1 0 0 (nx (QPI (cz z) P)) 16 [none] [] (cz z) := by
  unfold F_X11_isFormula_16 at H
  refine j_iconst (v := Int32.ofInt 0) (dk dt_X11_isFormula 8 rfl) (by decide) ?_
  exact j_el (T_X11_isFormula_17 (by decide) hw   H) trivial
def F_X11_isFormula  (x0 : Option Nat) (z : Z) (P : Int → Prop) : Prop :=
  (if x0 = none then F_X11_isFormula_16 z P else (∃ a_5, x0 = some a_5 ∧ zK z a_5 = 2 ∧ (if zI z a_5 0 = 5 then F_X11_isFormula_17 1 z P else F_X11_isFormula_16 z P)))
theorem T_X11_isFormula  {x0 : Option Nat} {z : Z} {P : Int → Prop}  (hw : Wz z)  (H : F_X11_isFormula x0 z P) : Con mX11_isFormula 1 0 0 [vr (x0)] (cz z) (QPI (cz z) P) := by
  refine con_of rfl (Nat.le_of_ble_eq_true rfl) (by decide) ?_
  show J mX11_isFormula 1 0 0 _ 0 [some (vr (x0))] [] (cz z)
  unfold F_X11_isFormula at H
  refine j_aload_n (dk dt_X11_isFormula 0 rfl) rfl ?_
  refine jz_ifnull 16 (dk dt_X11_isFormula 1 rfl) (by decide) H (fun H => ?_) (fun H => ?_)
  · exact j_el (T_X11_isFormula_16  hw   H) trivial
  · refine j_aload_n (dk dt_X11_isFormula 2 rfl) rfl ?_
    obtain ⟨a_5, e_5, k_5, H⟩ := H
    refine jz_getI (kz := 0) (dk dt_X11_isFormula 3 rfl) fl_X11_372 rfl rfl e_5 k_5 ?_
    refine j_iconst (v := Int32.ofInt 5) (dk dt_X11_isFormula 4 rfl) (by decide) ?_
    refine jz_icmp_ne 16 (dk dt_X11_isFormula 5 rfl) (by decide) (hw.1 _ _) (by decide) H (fun H => ?_) (fun H => ?_)
    · refine j_iconst (v := Int32.ofInt 1) (dk dt_X11_isFormula 6 rfl) (by decide) ?_
      refine j_goto 17 (dk dt_X11_isFormula 7 rfl) (by decide) ?_
      exact j_el (T_X11_isFormula_17 (by decide) hw   H) trivial
    · exact j_el (T_X11_isFormula_16  hw   H) trivial
def F_X11_sheetOf_20  (s0 : Option Nat) (z : Z) (P : Option Nat → Prop) : Prop :=
  P s0
theorem T_X11_sheetOf_20  {s0 : Option Nat} {z : Z} {P : Option Nat → Prop}  (hw : Wz z)   (H : F_X11_sheetOf_20 s0 z P) : J mX11_sheetOf 2 0 0 (nx (QPA (cz z) P)) 20 [none, none] [vr (s0)] (cz z) := by
  unfold F_X11_sheetOf_20 at H
  exact j_areturn (dk dt_X11_sheetOf 10 rfl) rfl rfl ⟨_, rfl, rfl, H⟩
def F_X11_sheetOf  (t0 : Nat) (x1 : Int) (z : Z) (P : Option Nat → Prop) : Prop :=
  (if x1 = (-1) then (zK z t0 = 12 ∧ F_X11_sheetOf_20 (zO z t0 11) z P) else (zK z t0 = 12 ∧ (∃ a_17, zO z t0 2 = some a_17 ∧ zK z a_17 = 3 ∧ F_X2_at a_17 x1 z (fun x_17 => F_X11_sheetOf_20 x_17 z P))))
theorem T_X11_sheetOf  {t0 : Nat} {x1 : Int} {z : Z} {P : Option Nat → Prop} (r_x1 : R32 x1) (hw : Wz z)  (H : F_X11_sheetOf t0 x1 z P) : Con mX11_sheetOf 2 0 0 [vr (some t0), ii (x1)] (cz z) (QPA (cz z) P) := by
  refine con_of rfl (Nat.le_of_ble_eq_true rfl) (by decide) ?_
  show J mX11_sheetOf 2 0 0 _ 0 [some (vr (some t0)), some (ii (x1))] [] (cz z)
  unfold F_X11_sheetOf at H
  refine j_iload_n (dk dt_X11_sheetOf 0 rfl) rfl ?_
  refine j_iconst (v := Int32.ofInt (-1)) (dk dt_X11_sheetOf 1 rfl) (by decide) ?_
  refine jz_icmp_ne 12 (dk dt_X11_sheetOf 2 rfl) (by decide) r_x1 (by decide) H (fun H => ?_) (fun H => ?_)
  · refine j_aload_n (dk dt_X11_sheetOf 3 rfl) rfl ?_
    obtain ⟨k_6, H⟩ := H
    refine jz_getO (kz := 11) (dk dt_X11_sheetOf 4 rfl) fl_X11_104 rfl rfl rfl k_6 ?_
    refine j_goto 20 (dk dt_X11_sheetOf 5 rfl) (by decide) ?_
    exact j_el (T_X11_sheetOf_20  hw   H) trivial
  · refine j_aload_n (dk dt_X11_sheetOf 6 rfl) rfl ?_
    obtain ⟨k_13, H⟩ := H
    refine jz_getO (kz := 2) (dk dt_X11_sheetOf 7 rfl) fl_X11_26 rfl rfl rfl k_13 ?_
    refine j_iload_n (dk dt_X11_sheetOf 8 rfl) rfl ?_
    obtain ⟨a_17, e_17, k_17, H⟩ := H
    refine jz_callV1 (dk dt_X11_sheetOf 9 rfl) vl_X11_269 e_17 (T_X2_at r_x1 hw H) k_17 rfl (by decide) (Nat.zero_le _) (Nat.zero_le _) (Nat.le_of_ble_eq_true rfl) (fun v_17 h_17 P_17 => ?_)
    obtain ⟨x_17, rfl, rfl, H⟩ := P_17
    dsimp only [rs]
    exact j_el (T_X11_sheetOf_20  hw   H) trivial
def F_X1_init  (t0 : Nat) (x1 : Int) (x2 : Option Nat) (x3 : Option Nat) (z : Z) (P : Z → Prop) : Prop :=
  (zK z t0 = 2 ∧ (∀ z_6, z_6 = wI z t0 0 x1 → (∀ z_11, z_11 = wO z_6 t0 1 x2 → (∀ z_16, z_16 = wO z_11 t0 2 x3 → P z_16))))
theorem T_X1_init  {t0 : Nat} {x1 : Int} {x2 : Option Nat} {x3 : Option Nat} {z : Z} {P : Z → Prop} (r_x1 : R32 x1) (hw : Wz z)  (H : F_X1_init t0 x1 x2 x3 z P) : Con mX1_init 4 0 0 [vr (some t0), ii (x1), vr (x2), vr (x3)] (cz z) (QZV P) := by
  refine con_of rfl (Nat.le_of_ble_eq_true rfl) (by decide) ?_
  show J mX1_init 4 0 0 _ 0 [some (vr (some t0)), some (ii (x1)), some (vr (x2)), some (vr (x3))] [] (cz z)
  unfold F_X1_init at H
  refine j_aload_n (dk dt_X1_init 0 rfl) rfl ?_
  refine j_objInit (dk dt_X1_init 1 rfl) ol_X1_1 ob_1 ob_2 (by decide) (Nat.le_of_ble_eq_true rfl) ?_
  refine j_aload_n (dk dt_X1_init 2 rfl) rfl ?_
  refine j_iload_n (dk dt_X1_init 3 rfl) rfl ?_
  obtain ⟨k_6, H⟩ := H
  refine jz_putIF (kz := 0) (dk dt_X1_init 4 rfl) fl_X1_7 rfl (fun _ _ q => by cases q; rfl) rfl rfl rfl rfl rfl k_6 hw r_x1 (fun w_6 => ?_)
  replace H := H _ rfl
  refine j_aload_n (dk dt_X1_init 5 rfl) rfl ?_
  refine j_aload_n (dk dt_X1_init 6 rfl) rfl ?_
  refine jz_putOF (kz := 1) (dk dt_X1_init 7 rfl) fl_X1_13 rfl (fun _ _ q => by cases q; rfl) rfl rfl rfl k_6 w_6 (fun w_11 => ?_)
  replace H := H _ rfl
  refine j_aload_n (dk dt_X1_init 8 rfl) rfl ?_
  refine j_aload_n (dk dt_X1_init 9 rfl) rfl ?_
  refine jz_putOF (kz := 2) (dk dt_X1_init 10 rfl) fl_X1_17 rfl (fun _ _ q => by cases q; rfl) rfl rfl rfl k_6 w_11 (fun w_16 => ?_)
  replace H := H _ rfl
  exact j_return (dk dt_X1_init 11 rfl) rfl ⟨_, rfl, rfl, w_16, H⟩
def F_X4_init  (t0 : Nat) (x1 : Int) (x2 : Int) (x3 : Option Nat) (z : Z) (P : Z → Prop) : Prop :=
  (zK z t0 = 5 ∧ (∀ z_6, z_6 = wI z t0 8 (-1) → (∀ z_11, z_11 = wI z_6 t0 0 x1 → (∀ z_16, z_16 = wI z_11 t0 1 x2 → (∀ z_21, z_21 = wO z_16 t0 2 x3 → P z_21)))))
theorem T_X4_init  {t0 : Nat} {x1 : Int} {x2 : Int} {x3 : Option Nat} {z : Z} {P : Z → Prop} (r_x1 : R32 x1) (r_x2 : R32 x2) (hw : Wz z)  (H : F_X4_init t0 x1 x2 x3 z P) : Con mX4_init 4 0 0 [vr (some t0), ii (x1), ii (x2), vr (x3)] (cz z) (QZV P) := by
  refine con_of rfl (Nat.le_of_ble_eq_true rfl) (by decide) ?_
  show J mX4_init 4 0 0 _ 0 [some (vr (some t0)), some (ii (x1)), some (ii (x2)), some (vr (x3))] [] (cz z)
  unfold F_X4_init at H
  refine j_aload_n (dk dt_X4_init 0 rfl) rfl ?_
  refine j_objInit (dk dt_X4_init 1 rfl) ol_X4_3 ob_1 ob_2 (by decide) (Nat.le_of_ble_eq_true rfl) ?_
  refine j_aload_n (dk dt_X4_init 2 rfl) rfl ?_
  refine j_iconst (v := Int32.ofInt (-1)) (dk dt_X4_init 3 rfl) (by decide) ?_
  obtain ⟨k_6, H⟩ := H
  refine jz_putI (kz := 8) (dk dt_X4_init 4 rfl) fl_X4_9 rfl rfl rfl rfl rfl k_6 hw (by decide) (fun w_6 => ?_)
  replace H := H _ rfl
  refine j_aload_n (dk dt_X4_init 5 rfl) rfl ?_
  refine j_iload_n (dk dt_X4_init 6 rfl) rfl ?_
  refine jz_putIF (kz := 0) (dk dt_X4_init 7 rfl) fl_X4_15 rfl (fun _ _ q => by cases q; rfl) rfl rfl rfl rfl rfl k_6 w_6 r_x1 (fun w_11 => ?_)
  replace H := H _ rfl
  refine j_aload_n (dk dt_X4_init 8 rfl) rfl ?_
  refine j_iload_n (dk dt_X4_init 9 rfl) rfl ?_
  refine jz_putIF (kz := 1) (dk dt_X4_init 10 rfl) fl_X4_18 rfl (fun _ _ q => by cases q; rfl) rfl rfl rfl rfl rfl k_6 w_11 r_x2 (fun w_16 => ?_)
  replace H := H _ rfl
  refine j_aload_n (dk dt_X4_init 11 rfl) rfl ?_
  refine j_aload_n (dk dt_X4_init 12 rfl) rfl ?_
  refine jz_putOF (kz := 2) (dk dt_X4_init 13 rfl) fl_X4_21 rfl (fun _ _ q => by cases q; rfl) rfl rfl rfl k_6 w_16 (fun w_21 => ?_)
  replace H := H _ rfl
  exact j_return (dk dt_X4_init 14 rfl) rfl ⟨_, rfl, rfl, w_21, H⟩
def F_X6_further_51  (s0 : Int) (z : Z) (P : Int → Prop) : Prop :=
  P s0
theorem T_X6_further_51  {s0 : Int} {z : Z} {P : Int → Prop} (r_s0 : R32 s0) (hw : Wz z)   (H : F_X6_further_51 s0 z P) : J mX6_further 2 0 0 (nx (QPI (cz z) P)) 51 [none, none, none, none, none, none, none] [ii (s0)] (cz z) := by
  unfold F_X6_further_51 at H
  exact j_ireturn (dk dt_X6_further 29 rfl) rfl rfl ⟨_, rfl, r_s0, rfl, H⟩
def F_X6_further_50  (z : Z) (P : Int → Prop) : Prop :=
  F_X6_further_51 0 z P
theorem T_X6_further_50  {z : Z} {P : Int → Prop}  (hw : Wz z)   (H : F_X6_further_50 z P) : J mX6_further 2 0 0 (nx (QPI (cz z) P)) 50 [none, none, none, none, none, none, none] [] (cz z) := by
  unfold F_X6_further_50 at H
  refine j_iconst (v := Int32.ofInt 0) (dk dt_X6_further 28 rfl) (by decide) ?_
  exact j_el (T_X6_further_51 (by decide) hw   H) trivial
def F_X6_further  (t0 : Nat) (x1 : Int) (x2 : Int) (x3 : Int) (z : Z) (P : Int → Prop) : Prop :=
  (zK z t0 = 7 ∧ F_X6_line t0 x1 z (fun x_2 => F_X6_placeOf t0 x1 x2 z (fun x_10 => (if x_10 ≤ 0 then F_X6_further_50 z P else (if w32 (x_10 + x3) < 1 then F_X6_further_50 z P else (∃ a_36, x_2 = some a_36 ∧ zK z a_36 = 15 ∧ (if zN z a_36 < w32 (x_10 + x3) then F_X6_further_50 z P else (0 ≤ w32 ((w32 (x_10 + x3)) - 1) ∧ w32 ((w32 (x_10 + x3)) - 1) < zN z a_36 ∧ F_X6_further_51 (zI z a_36 (w32 ((w32 (x_10 + x3)) - 1))) z P))))))))
theorem T_X6_further  {t0 : Nat} {x1 : Int} {x2 : Int} {x3 : Int} {z : Z} {P : Int → Prop} (r_x1 : R32 x1) (r_x2 : R32 x2) (r_x3 : R32 x3) (hw : Wz z)  (H : F_X6_further t0 x1 x2 x3 z P) : Con mX6_further 2 0 0 [vr (some t0), ii (x1), ii (x2), ii (x3)] (cz z) (QPI (cz z) P) := by
  refine con_of rfl (Nat.le_of_ble_eq_true rfl) (by decide) ?_
  show J mX6_further 2 0 0 _ 0 [some (vr (some t0)), some (ii (x1)), some (ii (x2)), some (ii (x3)), none, none, none] [] (cz z)
  unfold F_X6_further at H
  refine j_aload_n (dk dt_X6_further 0 rfl) rfl ?_
  refine j_iload_n (dk dt_X6_further 1 rfl) rfl ?_
  obtain ⟨k_2, H⟩ := H
  refine jz_callV1 (dk dt_X6_further 2 rfl) vl_X6_36 rfl (T_X6_line r_x1 hw H) k_2 rfl (by decide) (Nat.zero_le _) (Nat.zero_le _) (Nat.le_of_ble_eq_true rfl) (fun v_2 h_2 P_2 => ?_)
  obtain ⟨x_2, rfl, rfl, H⟩ := P_2
  dsimp only [rs]
  refine j_astore (dk dt_X6_further 3 rfl) (by decide) ?_
  refine j_aload_n (dk dt_X6_further 4 rfl) rfl ?_
  refine j_iload_n (dk dt_X6_further 5 rfl) rfl ?_
  refine j_iload_n (dk dt_X6_further 6 rfl) rfl ?_
  refine jz_callV2 (dk dt_X6_further 7 rfl) vl_X6_28 rfl (T_X6_placeOf r_x1 r_x2 hw H) k_2 rfl (by decide) (Nat.zero_le _) (Nat.zero_le _) (Nat.le_of_ble_eq_true rfl) (fun v_10 h_10 P_10 => ?_)
  obtain ⟨x_10, rfl, r_10, rfl, H⟩ := P_10
  dsimp only [rs]
  refine j_istore (dk dt_X6_further 8 rfl) (by decide) ?_
  refine j_iload (dk dt_X6_further 9 rfl) rfl ?_
  refine j_iload_n (dk dt_X6_further 10 rfl) rfl ?_
  refine jz_iadd (dk dt_X6_further 11 rfl) ?_
  refine j_istore (dk dt_X6_further 12 rfl) (by decide) ?_
  refine j_iload (dk dt_X6_further 13 rfl) rfl ?_
  refine jz_if_le 50 (dk dt_X6_further 14 rfl) (by decide) r_10 H (fun H => ?_) (fun H => ?_)
  · exact j_el (T_X6_further_50  hw   H) trivial
  · refine j_iload (dk dt_X6_further 15 rfl) rfl ?_
    refine j_iconst (v := Int32.ofInt 1) (dk dt_X6_further 16 rfl) (by decide) ?_
    refine jz_icmp_lt 50 (dk dt_X6_further 17 rfl) (by decide) (r32_w _) (by decide) H (fun H => ?_) (fun H => ?_)
    · exact j_el (T_X6_further_50  hw   H) trivial
    · refine j_iload (dk dt_X6_further 18 rfl) rfl ?_
      refine j_aload (dk dt_X6_further 19 rfl) rfl ?_
      obtain ⟨a_36, e_36, k_36, H⟩ := H
      refine jz_alen (t := 1) (dk dt_X6_further 20 rfl) e_36 k_36 (by decide) hw ?_
      refine jz_icmp_gt 50 (dk dt_X6_further 21 rfl) (by decide) (r32_w _) (r32_len hw _) H (fun H => ?_) (fun H => ?_)
      · exact j_el (T_X6_further_50  hw   H) trivial
      · refine j_aload (dk dt_X6_further 22 rfl) rfl ?_
        refine j_iload (dk dt_X6_further 23 rfl) rfl ?_
        refine j_iconst (v := Int32.ofInt 1) (dk dt_X6_further 24 rfl) (by decide) ?_
        refine jz_isub (dk dt_X6_further 25 rfl) ?_
        obtain ⟨p_46, q_46, H⟩ := H
        refine jz_iald (dk dt_X6_further 26 rfl) e_36 k_36 p_46 q_46 hw ?_
        refine j_goto 51 (dk dt_X6_further 27 rfl) (by decide) ?_
        exact j_el (T_X6_further_51 (hw.1 _ _) hw   H) trivial
