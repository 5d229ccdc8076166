def L_X10_findStarts_21  (t0 : Nat) (x1 : Int) (x2 : Int) (x3 : Int) (z : Z) (P : (Int × Int) ⊕ ((Int)) → Prop) : Prop :=
  (zK z t0 = 11 ∧ (∃ a_27, zO z t0 4 = some a_27 ∧ zK z a_27 = 20 ∧ (0 ≤ x1 ∧ x1 < zN z a_27 ∧ (∃ a_28, zO z a_27 x1 = some a_28 ∧ zK z a_28 = 5 ∧ (if zI z a_28 1 ≤ x3 then P (.inr x2) else (if x2 ≤ 0 then P (.inr x2) else (∃ a_45, zO z t0 1 = some a_45 ∧ zK z a_45 = 15 ∧ (0 ≤ w32 (x2 - 1) ∧ w32 (x2 - 1) < zN z a_45 ∧ P (.inl (zI z a_45 (w32 (x2 - 1)), w32 (x3 + 1)))))))))))
theorem U_X10_findStarts_21  {t0 : Nat} {x1 : Int} {x2 : Int} {x3 : Int} {z : Z} {P : (Int × Int) ⊕ ((Int)) → Prop} {post : Option Sv ⊕ String → Hp → Prop} (r_x1 : R32 x1) (r_x2 : R32 x2) (r_x3 : R32 x3) (hw : Wz z)  (hl : ∀ (x2 : Int) (x3 : Int), P (.inl (x2, x3)) → R32 x2 → R32 x3 → J mX10_findStarts 1 0 0 post 21 [some (vr (some t0)), some (ii (x1)), some (ii (x2)), some (ii (x3))] [] (cz z)) (he0 : ∀ (x2 : Int), P (.inr x2) → R32 x2 → J mX10_findStarts 1 0 0 post 53 [some (vr (some t0)), some (ii (x1)), some (ii (x2)), none] [] (cz z)) (H : L_X10_findStarts_21 t0 x1 x2 x3 z P) : J mX10_findStarts 1 0 0 post 21 [some (vr (some t0)), some (ii (x1)), some (ii (x2)), some (ii (x3))] [] (cz z) := by
  unfold L_X10_findStarts_21 at H
  refine j_iload_n (dk dt_X10_findStarts 14 rfl) rfl ?_
  refine j_aload_n (dk dt_X10_findStarts 15 rfl) rfl ?_
  obtain ⟨k_23, H⟩ := H
  refine jz_getO (kz := 4) (dk dt_X10_findStarts 16 rfl) fl_X10_49 rfl rfl rfl k_23 ?_
  refine j_iload_n (dk dt_X10_findStarts 17 rfl) rfl ?_
  obtain ⟨a_27, e_27, k_27, H⟩ := H
  obtain ⟨p_27, q_27, H⟩ := H
  refine jz_aald (t := 6) (dk dt_X10_findStarts 18 rfl) e_27 k_27 (by decide) (by decide) p_27 q_27 hw ?_
  obtain ⟨a_28, e_28, k_28, H⟩ := H
  refine jz_getI (kz := 1) (dk dt_X10_findStarts 19 rfl) fl_X10_91 rfl rfl e_28 k_28 ?_
  refine jz_icmp_ge 53 (dk dt_X10_findStarts 20 rfl) (by decide) r_x3 (hw.1 _ _) H (fun H => ?_) (fun H => ?_)
  · exact j_el (he0 _ H r_x2) (And.intro rfl (And.intro rfl (And.intro rfl trivial)))
  · refine j_iload_n (dk dt_X10_findStarts 21 rfl) rfl ?_
    refine jz_if_le 53 (dk dt_X10_findStarts 22 rfl) (by decide) r_x2 H (fun H => ?_) (fun H => ?_)
    · exact j_el (he0 _ H r_x2) (And.intro rfl (And.intro rfl (And.intro rfl trivial)))
    · refine j_aload_n (dk dt_X10_findStarts 23 rfl) rfl ?_
      refine jz_getO (kz := 1) (dk dt_X10_findStarts 24 rfl) fl_X10_15 rfl rfl rfl k_23 ?_
      refine j_iload_n (dk dt_X10_findStarts 25 rfl) rfl ?_
      refine j_iconst (v := Int32.ofInt 1) (dk dt_X10_findStarts 26 rfl) (by decide) ?_
      refine jz_isub (dk dt_X10_findStarts 27 rfl) ?_
      obtain ⟨a_45, e_45, k_45, H⟩ := H
      obtain ⟨p_45, q_45, H⟩ := H
      refine jz_iald (dk dt_X10_findStarts 28 rfl) e_45 k_45 p_45 q_45 hw ?_
      refine j_istore_n (dk dt_X10_findStarts 29 rfl) (by decide) ?_
      refine jz_iinc (dk dt_X10_findStarts 30 rfl) rfl ?_
      refine j_goto 21 (dk dt_X10_findStarts 31 rfl) (by decide) ?_
      exact j_el (hl _ _ H (hw.1 _ _) (r32_w _)) (And.intro rfl (And.intro rfl (And.intro rfl (And.intro rfl trivial))))
def F_X10_findStarts_53  (t0 : Nat) (x1 : Int) (x2 : Int) (z : Z) (P : (Int × Z) ⊕ ((Z)) → Prop) : Prop :=
  (zK z t0 = 11 ∧ (∃ a_59, zO z t0 1 = some a_59 ∧ zK z a_59 = 15 ∧ (0 ≤ x1 ∧ x1 < zN z a_59 ∧ (∀ z_59, z_59 = wI z a_59 x1 x2 → P (.inl (w32 (x1 + 1), z_59))))))
theorem T_X10_findStarts_53  {t0 : Nat} {x1 : Int} {x2 : Int} {z : Z} {P : (Int × Z) ⊕ ((Z)) → Prop} {post : Option Sv ⊕ String → Hp → Prop} (r_x1 : R32 x1) (r_x2 : R32 x2) (hw : Wz z)  (hl : ∀ (x1 : Int) (z : Z), P (.inl (x1, z)) → Wz z → R32 x1 → J mX10_findStarts 1 0 0 post 2 [some (vr (some t0)), some (ii (x1)), none, none] [] (cz z)) (he0 : ∀ (z : Z), P (.inr z) → Wz z → J mX10_findStarts 1 0 0 post 66 [none, none, none, none] [] (cz z)) (H : F_X10_findStarts_53 t0 x1 x2 z P) : J mX10_findStarts 1 0 0 (post) 53 [some (vr (some t0)), some (ii (x1)), some (ii (x2)), none] [] (cz z) := by
  unfold F_X10_findStarts_53 at H
  refine j_aload_n (dk dt_X10_findStarts 32 rfl) rfl ?_
  obtain ⟨k_54, H⟩ := H
  refine jz_getO (kz := 1) (dk dt_X10_findStarts 33 rfl) fl_X10_15 rfl rfl rfl k_54 ?_
  refine j_iload_n (dk dt_X10_findStarts 34 rfl) rfl ?_
  refine j_iload_n (dk dt_X10_findStarts 35 rfl) rfl ?_
  obtain ⟨a_59, e_59, k_59, H⟩ := H
  obtain ⟨p_59, q_59, H⟩ := H
  refine jz_iast (dk dt_X10_findStarts 36 rfl) e_59 k_59 p_59 q_59 hw r_x2 (fun w_59 => ?_)
  replace H := H _ rfl
  refine jz_iinc (dk dt_X10_findStarts 37 rfl) rfl ?_
  refine j_goto 2 (dk dt_X10_findStarts 38 rfl) (by decide) ?_
  exact j_el (hl _ _ H w_59 (r32_w _)) (And.intro rfl (And.intro rfl trivial))
def F_X10_findStarts_21  (t0 : Nat) (x1 : Int) (x2 : Int) (x3 : Int) (z : Z) (P : (Int × Z) ⊕ ((Z)) → Prop) : Prop :=
  lp (S := Int × Int) (E := (Int)) (fun q P_ => L_X10_findStarts_21 t0 x1 q.1 q.2 z P_) (x2, x3) (fun (x2 : Int) => F_X10_findStarts_53 t0 x1 x2 z P)
theorem T_X10_findStarts_21  {t0 : Nat} {x1 : Int} {x2 : Int} {x3 : Int} {z : Z} {P : (Int × Z) ⊕ ((Z)) → Prop} {post : Option Sv ⊕ String → Hp → Prop} (r_x1 : R32 x1) (r_x2 : R32 x2) (r_x3 : R32 x3) (hw : Wz z)  (hl : ∀ (x1 : Int) (z : Z), P (.inl (x1, z)) → Wz z → R32 x1 → J mX10_findStarts 1 0 0 post 2 [some (vr (some t0)), some (ii (x1)), none, none] [] (cz z)) (he0 : ∀ (z : Z), P (.inr z) → Wz z → J mX10_findStarts 1 0 0 post 66 [none, none, none, none] [] (cz z)) (H : F_X10_findStarts_21 t0 x1 x2 x3 z P) : J mX10_findStarts 1 0 0 (post) 21 [some (vr (some t0)), some (ii (x1)), some (ii (x2)), some (ii (x3))] [] (cz z) := by
  unfold F_X10_findStarts_21 at H
  refine lp_J (G := fun q => R32 (q.1) → R32 (q.2) → J mX10_findStarts 1 0 0 (post) 21 [some (vr (some t0)), some (ii (x1)), some (ii ((q.1))), some (ii ((q.2)))] [] (cz z)) (fun q P_ hl_ he_ Hb => ?_) (x2, x3) H r_x2 r_x3
  obtain ⟨x2, x3⟩ := q
  intro r_x2 r_x3
  refine U_X10_findStarts_21 (P := P_) r_x1 r_x2 r_x3 hw  (fun x2 x3 Hp r_x2 r_x3 => hl_ (x2, x3) Hp r_x2 r_x3) ?_ Hb
  · intro x2 Hp r_x2
    have H := he_ _ Hp
    exact j_el (T_X10_findStarts_53 r_x1 r_x2 hw  hl he0 H) (And.intro rfl (And.intro rfl (And.intro rfl trivial)))
def L_X10_findStarts_2  (t0 : Nat) (x1 : Int) (z : Z) (P : (Int × Z) ⊕ ((Z)) → Prop) : Prop :=
  (zK z t0 = 11 ∧ (∃ a_7, zO z t0 4 = some a_7 ∧ zK z a_7 = 20 ∧ (if zN z a_7 ≤ x1 then P (.inr z) else (if 60 ≤ x1 then P (.inr z) else F_X10_findStarts_21 t0 x1 x1 0 z P))))
theorem U_X10_findStarts_2  {t0 : Nat} {x1 : Int} {z : Z} {P : (Int × Z) ⊕ ((Z)) → Prop} {post : Option Sv ⊕ String → Hp → Prop} (r_x1 : R32 x1) (hw : Wz z)  (hl : ∀ (x1 : Int) (z : Z), P (.inl (x1, z)) → Wz z → R32 x1 → J mX10_findStarts 1 0 0 post 2 [some (vr (some t0)), some (ii (x1)), none, none] [] (cz z)) (he0 : ∀ (z : Z), P (.inr z) → Wz z → J mX10_findStarts 1 0 0 post 66 [none, none, none, none] [] (cz z)) (H : L_X10_findStarts_2 t0 x1 z P) : J mX10_findStarts 1 0 0 post 2 [some (vr (some t0)), some (ii (x1)), none, none] [] (cz z) := by
  unfold L_X10_findStarts_2 at H
  refine j_iload_n (dk dt_X10_findStarts 2 rfl) rfl ?_
  refine j_aload_n (dk dt_X10_findStarts 3 rfl) rfl ?_
  obtain ⟨k_4, H⟩ := H
  refine jz_getO (kz := 4) (dk dt_X10_findStarts 4 rfl) fl_X10_49 rfl rfl rfl k_4 ?_
  obtain ⟨a_7, e_7, k_7, H⟩ := H
  refine jz_alen (t := 6) (dk dt_X10_findStarts 5 rfl) e_7 k_7 (by decide) hw ?_
  refine jz_icmp_ge 66 (dk dt_X10_findStarts 6 rfl) (by decide) r_x1 (r32_len hw _) H (fun H => ?_) (fun H => ?_)
  · exact j_el (he0 _ H hw) trivial
  · refine j_iload_n (dk dt_X10_findStarts 7 rfl) rfl ?_
    refine j_bipush (v := Int32.ofInt 60) (dk dt_X10_findStarts 8 rfl) (by decide) ?_
    refine jz_icmp_ge 66 (dk dt_X10_findStarts 9 rfl) (by decide) r_x1 (by decide) H (fun H => ?_) (fun H => ?_)
    · exact j_el (he0 _ H hw) trivial
    · refine j_iload_n (dk dt_X10_findStarts 10 rfl) rfl ?_
      refine j_istore_n (dk dt_X10_findStarts 11 rfl) (by decide) ?_
      refine j_iconst (v := Int32.ofInt 0) (dk dt_X10_findStarts 12 rfl) (by decide) ?_
      refine j_istore_n (dk dt_X10_findStarts 13 rfl) (by decide) ?_
      exact j_el (T_X10_findStarts_21 r_x1 r_x1 (by decide) hw  hl he0 H) (And.intro rfl (And.intro rfl (And.intro rfl (And.intro rfl trivial))))
def F_X10_findStarts_66  (z : Z) (P : Z → Prop) : Prop :=
  P z
theorem T_X10_findStarts_66  {z : Z} {P : Z → Prop}  (hw : Wz z)   (H : F_X10_findStarts_66 z P) : J mX10_findStarts 1 0 0 (nx (QZV P)) 66 [none, none, none, none] [] (cz z) := by
  unfold F_X10_findStarts_66 at H
  exact j_return (dk dt_X10_findStarts 39 rfl) rfl ⟨_, rfl, rfl, hw, H⟩
def F_X10_findStarts_2  (t0 : Nat) (x1 : Int) (z : Z) (P : Z → Prop) : Prop :=
  lp (S := Int × Z) (E := (Z)) (fun q P_ => L_X10_findStarts_2 t0 q.1 q.2 P_) (x1, z) (fun (z : Z) => F_X10_findStarts_66 z P)
theorem T_X10_findStarts_2  {t0 : Nat} {x1 : Int} {z : Z} {P : Z → Prop} (r_x1 : R32 x1) (hw : Wz z)   (H : F_X10_findStarts_2 t0 x1 z P) : J mX10_findStarts 1 0 0 (nx (QZV P)) 2 [some (vr (some t0)), some (ii (x1)), none, none] [] (cz z) := by
  unfold F_X10_findStarts_2 at H
  refine lp_J (G := fun q => Wz (q.2) → R32 (q.1) → J mX10_findStarts 1 0 0 (nx (QZV P)) 2 [some (vr (some t0)), some (ii ((q.1))), none, none] [] (cz (q.2))) (fun q P_ hl_ he_ Hb => ?_) (x1, z) H hw r_x1
  obtain ⟨x1, z⟩ := q
  intro hw r_x1
  refine U_X10_findStarts_2 (P := P_) r_x1 hw  (fun x1 z Hp hw r_x1 => hl_ (x1, z) Hp hw r_x1) ?_ Hb
  · intro z Hp hw
    have H := he_ _ Hp
    exact j_el (T_X10_findStarts_66  hw   H) trivial
def F_X10_findStarts  (t0 : Nat) (z : Z) (P : Z → Prop) : Prop :=
  F_X10_findStarts_2 t0 0 z P
theorem T_X10_findStarts  {t0 : Nat} {z : Z} {P : Z → Prop}  (hw : Wz z)  (H : F_X10_findStarts t0 z P) : Con mX10_findStarts 1 0 0 [vr (some t0)] (cz z) (QZV P) := by
  refine con_of rfl (Nat.le_of_ble_eq_true rfl) (by decide) ?_
  show J mX10_findStarts 1 0 0 _ 0 [some (vr (some t0)), none, none, none] [] (cz z)
  unfold F_X10_findStarts at H
  refine j_iconst (v := Int32.ofInt 0) (dk dt_X10_findStarts 0 rfl) (by decide) ?_
  refine j_istore_n (dk dt_X10_findStarts 1 rfl) (by decide) ?_
  exact j_el (T_X10_findStarts_2 (by decide) hw   H) (And.intro rfl (And.intro rfl trivial))
def F_X8_init  (t0 : Nat) (x1 : Int) (z : Z) (c : Nat) (s : Nat) (P : Z → Prop) : Prop :=
  (0 ≤ max x1 0 ∧ max x1 0 < (33554432 : Int) ∧ 1 ≤ c ∧ Int.toNat (max x1 0) ≤ s ∧ ∀ a_10, zK z a_10 = 0 → (∀ z_10, z_10 = nZ z a_10 14 (max x1 0) → (zK z_10 t0 = 9 ∧ (∀ z_12, z_12 = wO z_10 t0 0 (some a_10) → P z_12))))
theorem T_X8_init  {t0 : Nat} {x1 : Int} {z : Z} {c : Nat} {s : Nat} {P : Z → Prop} (r_x1 : R32 x1) (hw : Wz z)  (H : F_X8_init t0 x1 z c s P) : Con mX8_init 4 c s [vr (some t0), ii (x1)] (cz z) (QZV P) := by
  refine con_of rfl (Nat.le_of_ble_eq_true rfl) (by decide) ?_
  show J mX8_init 4 c s _ 0 [some (vr (some t0)), some (ii (x1))] [] (cz z)
  unfold F_X8_init at H
  refine j_aload_n (dk dt_X8_init 0 rfl) rfl ?_
  refine j_objInit (dk dt_X8_init 1 rfl) ol_X8_3 ob_1 ob_2 (by decide) (Nat.le_of_ble_eq_true rfl) ?_
  refine j_aload_n (dk dt_X8_init 2 rfl) rfl ?_
  refine j_iload_n (dk dt_X8_init 3 rfl) rfl ?_
  refine j_iconst (v := Int32.ofInt 0) (dk dt_X8_init 4 rfl) (by decide) ?_
  refine jz_mmax (dk dt_X8_init 5 rfl) sl_X8_9 (by decide) (Nat.le_of_ble_eq_true rfl) r_x1 (by decide) ?_
  obtain ⟨p_10, q_10, hc_10, hs_10, H⟩ := H
  refine jz_newB (dk dt_X8_init 6 rfl) p_10 q_10 hc_10 hs_10 hw (fun a_10 e_10 w_10 => ?_)
  replace H := H a_10 e_10
  replace H := H _ rfl
  obtain ⟨k_12, H⟩ := H
  refine jz_putOF (kz := 0) (dk dt_X8_init 7 rfl) fl_X8_15 rfl (fun _ _ q => by cases q; rfl) rfl rfl rfl k_12 w_10 (fun w_12 => ?_)
  replace H := H _ rfl
  exact j_return (dk dt_X8_init 8 rfl) rfl ⟨_, rfl, rfl, w_12, H⟩
def F_X10_init  (t0 : Nat) (z : Z) (c : Nat) (s : Nat) (P : Z → Prop) : Prop :=
  ((0 : Int) ≤ 2400 ∧ 2400 < (33554432 : Int) ∧ 1 ≤ c ∧ Int.toNat 2400 ≤ s ∧ ∀ a_8, zK z a_8 = 0 → (∀ z_8, z_8 = nZ z a_8 14 2400 → (zK z_8 t0 = 11 ∧ (∀ z_10, z_10 = wO z_8 t0 0 (some a_8) → ((0 : Int) ≤ 60 ∧ 60 < (33554432 : Int) ∧ 1 ≤ c - 1 ∧ Int.toNat 60 ≤ s - Int.toNat 2400 ∧ ∀ a_16, zK z_10 a_16 = 0 → (∀ z_16, z_16 = nZ z_10 a_16 15 60 → (zK z_16 t0 = 11 ∧ (∀ z_18, z_18 = wO z_16 t0 1 (some a_16) → (1 ≤ (c - 1) - 1 ∧ 4 ≤ (s - Int.toNat 2400) - Int.toNat 60 ∧ ∀ a_22, zK z_18 a_22 = 0 → (∀ z_22, z_22 = nZ z_18 a_22 9 0 → (∃ c_28 s_28, c_28 ≤ ((c - 1) - 1) - 1 ∧ s_28 ≤ ((s - Int.toNat 2400) - Int.toNat 60) - 4 ∧ F_X8_init a_22 24 z_22 c_28 s_28 (fun z_28 => (zK z_28 t0 = 11 ∧ (∀ z_31, z_31 = wO z_28 t0 2 (some a_22) → P z_31))))))))))))))
theorem T_X10_init  {t0 : Nat} {z : Z} {c : Nat} {s : Nat} {P : Z → Prop}  (hw : Wz z)  (H : F_X10_init t0 z c s P) : Con mX10_init 5 c s [vr (some t0)] (cz z) (QZV P) := by
  refine con_of rfl (Nat.le_of_ble_eq_true rfl) (by decide) ?_
  show J mX10_init 5 c s _ 0 [some (vr (some t0))] [] (cz z)
  unfold F_X10_init at H
  refine j_aload_n (dk dt_X10_init 0 rfl) rfl ?_
  refine j_objInit (dk dt_X10_init 1 rfl) ol_X10_3 ob_1 ob_2 (by decide) (Nat.le_of_ble_eq_true rfl) ?_
  refine j_aload_n (dk dt_X10_init 2 rfl) rfl ?_
  refine j_sipush (v := Int32.ofInt 2400) (dk dt_X10_init 3 rfl) (by decide) ?_
  obtain ⟨p_8, q_8, hc_8, hs_8, H⟩ := H
  refine jz_newB (dk dt_X10_init 4 rfl) p_8 q_8 hc_8 hs_8 hw (fun a_8 e_8 w_8 => ?_)
  replace H := H a_8 e_8
  replace H := H _ rfl
  obtain ⟨k_10, H⟩ := H
  refine jz_putOF (kz := 0) (dk dt_X10_init 5 rfl) fl_X10_11 rfl (fun _ _ q => by cases q; rfl) rfl rfl rfl k_10 w_8 (fun w_10 => ?_)
  replace H := H _ rfl
  refine j_aload_n (dk dt_X10_init 6 rfl) rfl ?_
  refine j_bipush (v := Int32.ofInt 60) (dk dt_X10_init 7 rfl) (by decide) ?_
  obtain ⟨p_16, q_16, hc_16, hs_16, H⟩ := H
  refine jz_newI (dk dt_X10_init 8 rfl) p_16 q_16 hc_16 hs_16 w_10 (fun a_16 e_16 w_16 => ?_)
  replace H := H a_16 e_16
  replace H := H _ rfl
  obtain ⟨k_18, H⟩ := H
  refine jz_putOF (kz := 1) (dk dt_X10_init 9 rfl) fl_X10_15 rfl (fun _ _ q => by cases q; rfl) rfl rfl rfl k_18 w_16 (fun w_18 => ?_)
  replace H := H _ rfl
  refine j_aload_n (dk dt_X10_init 10 rfl) rfl ?_
  obtain ⟨hc_22, hs_22, H⟩ := H
  refine jz_new (dk dt_X10_init 11 rfl) cl_8 nl_X10_19 iw_8 zw_8 rfl hc_22 hs_22 w_18 (fun a_22 e_22 w_22 => ?_)
  replace H := H a_22 e_22
  replace H := H _ rfl
  refine j_dup (dk dt_X10_init 12 rfl) rfl ?_
  refine j_bipush (v := Int32.ofInt 24) (dk dt_X10_init 13 rfl) (by decide) ?_
  obtain ⟨c_28, s_28, hc_28, hs_28, H⟩ := H
  refine jz_callI1 (dk dt_X10_init 14 rfl) il_X10_21 rfl (T_X8_init (by decide) w_22 H) rfl (by decide) hc_28 hs_28 (Nat.le_of_ble_eq_true rfl) (fun v_28 h_28 P_28 => ?_)
  obtain ⟨z_28, rfl, rfl, w_28, H⟩ := P_28
  dsimp only [rs]
  obtain ⟨k_31, H⟩ := H
  refine jz_putOF (kz := 2) (dk dt_X10_init 15 rfl) fl_X10_24 rfl (fun _ _ q => by cases q; rfl) rfl rfl rfl k_31 w_28 (fun w_31 => ?_)
  replace H := H _ rfl
  exact j_return (dk dt_X10_init 16 rfl) rfl ⟨_, rfl, rfl, w_31, H⟩
def F_X10_letterAt_22  (s0 : Int) (z : Z) (P : Int → Prop) : Prop :=
  P s0
theorem T_X10_letterAt_22  {s0 : Int} {z : Z} {P : Int → Prop} (r_s0 : R32 s0) (hw : Wz z)   (H : F_X10_letterAt_22 s0 z P) : J mX10_letterAt 1 0 0 (nx (QPI (cz z) P)) 22 [none, none] [ii (s0)] (cz z) := by
  unfold F_X10_letterAt_22 at H
  exact j_ireturn (dk dt_X10_letterAt 12 rfl) rfl rfl ⟨_, rfl, r_s0, rfl, H⟩
def F_X10_letterAt_21  (z : Z) (P : Int → Prop) : Prop :=
  F_X10_letterAt_22 (-1) z P
theorem T_X10_letterAt_21  {z : Z} {P : Int → Prop}  (hw : Wz z)   (H : F_X10_letterAt_21 z P) : J mX10_letterAt 1 0 0 (nx (QPI (cz z) P)) 21 [none, none] [] (cz z) := by
  unfold F_X10_letterAt_21 at H
  refine j_iconst (v := Int32.ofInt (-1)) (dk dt_X10_letterAt 11 rfl) (by decide) ?_
  exact j_el (T_X10_letterAt_22 (by decide) hw   H) trivial
def F_X10_letterAt  (t0 : Nat) (x1 : Int) (z : Z) (P : Int → Prop) : Prop :=
  (if x1 < 0 then F_X10_letterAt_21 z P else (zK z t0 = 11 ∧ (if zI z t0 3 ≤ x1 then F_X10_letterAt_21 z P else (∃ a_17, zO z t0 0 = some a_17 ∧ zK z a_17 = 14 ∧ (0 ≤ x1 ∧ x1 < zN z a_17 ∧ F_X10_letterAt_22 (zI z a_17 x1) z P)))))
theorem T_X10_letterAt  {t0 : Nat} {x1 : Int} {z : Z} {P : Int → Prop} (r_x1 : R32 x1) (hw : Wz z)  (H : F_X10_letterAt t0 x1 z P) : Con mX10_letterAt 1 0 0 [vr (some t0), ii (x1)] (cz z) (QPI (cz z) P) := by
  refine con_of rfl (Nat.le_of_ble_eq_true rfl) (by decide) ?_
  show J mX10_letterAt 1 0 0 _ 0 [some (vr (some t0)), some (ii (x1))] [] (cz z)
  unfold F_X10_letterAt at H
  refine j_iload_n (dk dt_X10_letterAt 0 rfl) rfl ?_
  refine jz_if_lt 21 (dk dt_X10_letterAt 1 rfl) (by decide) r_x1 H (fun H => ?_) (fun H => ?_)
  · exact j_el (T_X10_letterAt_21  hw   H) trivial
  · refine j_iload_n (dk dt_X10_letterAt 2 rfl) rfl ?_
    refine j_aload_n (dk dt_X10_letterAt 3 rfl) rfl ?_
    obtain ⟨k_6, H⟩ := H
    refine jz_getI (kz := 3) (dk dt_X10_letterAt 4 rfl) fl_X10_28 rfl rfl rfl k_6 ?_
    refine jz_icmp_ge 21 (dk dt_X10_letterAt 5 rfl) (by decide) r_x1 (hw.1 _ _) H (fun H => ?_) (fun H => ?_)
    · exact j_el (T_X10_letterAt_21  hw   H) trivial
    · refine j_aload_n (dk dt_X10_letterAt 6 rfl) rfl ?_
      refine jz_getO (kz := 0) (dk dt_X10_letterAt 7 rfl) fl_X10_11 rfl rfl rfl k_6 ?_
      refine j_iload_n (dk dt_X10_letterAt 8 rfl) rfl ?_
      obtain ⟨a_17, e_17, k_17, H⟩ := H
      obtain ⟨p_17, q_17, H⟩ := H
      refine jz_bald (dk dt_X10_letterAt 9 rfl) e_17 k_17 p_17 q_17 hw ?_
      refine j_goto 22 (dk dt_X10_letterAt 10 rfl) (by decide) ?_
      exact j_el (T_X10_letterAt_22 (hw.1 _ _) hw   H) trivial
def F_X10_write_83  (t0 : Nat) (x1 : Option Nat) (z : Z) (P : Z → Prop) : Prop :=
  (∃ a_85, x1 = some a_85 ∧ zK z a_85 = 2 ∧ (zK z t0 = 11 ∧ F_X10_putValue t0 (zO z a_85 1) z (fun z_88 => P z_88)))
theorem T_X10_write_83  {t0 : Nat} {x1 : Option Nat} {z : Z} {P : Z → Prop}  (hw : Wz z)   (H : F_X10_write_83 t0 x1 z P) : J mX10_write 413 0 0 (nx (QZV P)) 83 [some (vr (some t0)), some (vr (x1)), none, none] [] (cz z) := by
  unfold F_X10_write_83 at H
  refine j_aload_n (dk dt_X10_write 45 rfl) rfl ?_
  refine j_aload_n (dk dt_X10_write 46 rfl) rfl ?_
  obtain ⟨a_85, e_85, k_85, H⟩ := H
  refine jz_getO (kz := 1) (dk dt_X10_write 47 rfl) fl_X10_60 rfl rfl e_85 k_85 ?_
  obtain ⟨k_88, H⟩ := H
  refine jz_callV1 (dk dt_X10_write 48 rfl) vl_X10_67 rfl (T_X10_putValue hw H) k_88 rfl (by decide) (Nat.zero_le _) (Nat.zero_le _) (Nat.le_of_ble_eq_true rfl) (fun v_88 h_88 P_88 => ?_)
  obtain ⟨z_88, rfl, rfl, w_88, H⟩ := P_88
  dsimp only [rs]
  exact j_return (dk dt_X10_write 49 rfl) rfl ⟨_, rfl, rfl, w_88, H⟩
def F_X10_write  (t0 : Nat) (x1 : Option Nat) (x2 : Option Nat) (x3 : Option Nat) (z : Z) (P : Z → Prop) : Prop :=
  (zK z t0 = 11 ∧ (∀ z_2, z_2 = wI z t0 3 0 → (∀ z_7, z_7 = wO z_2 t0 5 x2 → (∀ z_12, z_12 = wO z_7 t0 6 x3 → (if x1 = none then P z_12 else (∃ a_21, x1 = some a_21 ∧ zK z_12 a_21 = 2 ∧ (if zI z_12 a_21 0 = 5 then (∀ z_33, z_33 = wO z_12 t0 4 (zO z_12 a_21 2) → F_X10_findStarts t0 z_33 (fun z_37 => (zK z_37 t0 = 11 ∧ F_X10_put t0 61 z_37 (fun z_43 => (zK z_43 t0 = 11 ∧ (∃ a_51, zO z_43 t0 4 = some a_51 ∧ zK z_43 a_51 = 20 ∧ (∃ n_55, n_55 ≤ 400 ∧ F_X10_part n_55 t0 (w32 ((zN z_43 a_51) - 1)) 0 z_43 (fun z_55 => P z_55)))))))) else (if zI z_12 a_21 0 = 2 then F_X10_changesUnquoted (zO z_12 a_21 1) z_12 (fun x_71 => (if x_71 = 0 then F_X10_write_83 t0 x1 z_12 P else F_X10_put t0 39 z_12 (fun z_80 => F_X10_write_83 t0 x1 z_80 P))) else F_X10_write_83 t0 x1 z_12 P))))))))
theorem T_X10_write  {t0 : Nat} {x1 : Option Nat} {x2 : Option Nat} {x3 : Option Nat} {z : Z} {P : Z → Prop}  (hw : Wz z)  (H : F_X10_write t0 x1 x2 x3 z P) : Con mX10_write 413 0 0 [vr (some t0), vr (x1), vr (x2), vr (x3)] (cz z) (QZV P) := by
  refine con_of rfl (Nat.le_of_ble_eq_true rfl) (by decide) ?_
  show J mX10_write 413 0 0 _ 0 [some (vr (some t0)), some (vr (x1)), some (vr (x2)), some (vr (x3))] [] (cz z)
  unfold F_X10_write at H
  refine j_aload_n (dk dt_X10_write 0 rfl) rfl ?_
  refine j_iconst (v := Int32.ofInt 0) (dk dt_X10_write 1 rfl) (by decide) ?_
  obtain ⟨k_2, H⟩ := H
  refine jz_putI (kz := 3) (dk dt_X10_write 2 rfl) fl_X10_28 rfl rfl rfl rfl rfl k_2 hw (by decide) (fun w_2 => ?_)
  replace H := H _ rfl
  refine j_aload_n (dk dt_X10_write 3 rfl) rfl ?_
  refine j_aload_n (dk dt_X10_write 4 rfl) rfl ?_
  refine jz_putO (kz := 5) (dk dt_X10_write 5 rfl) fl_X10_32 rfl rfl rfl k_2 w_2 (fun w_7 => ?_)
  replace H := H _ rfl
  refine j_aload_n (dk dt_X10_write 6 rfl) rfl ?_
  refine j_aload_n (dk dt_X10_write 7 rfl) rfl ?_
  refine jz_putO (kz := 6) (dk dt_X10_write 8 rfl) fl_X10_36 rfl rfl rfl k_2 w_7 (fun w_12 => ?_)
  replace H := H _ rfl
  refine j_aload_n (dk dt_X10_write 9 rfl) rfl ?_
  refine jz_ifnonnull 20 (dk dt_X10_write 10 rfl) (by decide) H (fun H => ?_) (fun H => ?_)
  · exact j_return (dk dt_X10_write 11 rfl) rfl ⟨_, rfl, rfl, w_12, H⟩
  · refine j_aload_n (dk dt_X10_write 12 rfl) rfl ?_
    obtain ⟨a_21, e_21, k_21, H⟩ := H
    refine jz_getI (kz := 0) (dk dt_X10_write 13 rfl) fl_X10_40 rfl rfl e_21 k_21 ?_
    refine j_iconst (v := Int32.ofInt 5) (dk dt_X10_write 14 rfl) (by decide) ?_
    refine jz_icmp_ne 59 (dk dt_X10_write 15 rfl) (by decide) (w_12.1 _ _) (by decide) H (fun H => ?_) (fun H => ?_)
    · refine j_aload_n (dk dt_X10_write 16 rfl) rfl ?_
      refine j_aload_n (dk dt_X10_write 17 rfl) rfl ?_
      refine jz_getO (kz := 2) (dk dt_X10_write 18 rfl) fl_X10_45 rfl rfl e_21 k_21 ?_
      refine jz_putO (kz := 4) (dk dt_X10_write 19 rfl) fl_X10_49 rfl rfl rfl k_2 w_12 (fun w_33 => ?_)
      replace H := H _ rfl
      refine j_aload_n (dk dt_X10_write 20 rfl) rfl ?_
      refine jz_callV0 (dk dt_X10_write 21 rfl) vl_X10_50 rfl (T_X10_findStarts w_33 H) k_2 rfl (by decide) (Nat.zero_le _) (Nat.zero_le _) (Nat.le_of_ble_eq_true rfl) (fun v_37 h_37 P_37 => ?_)
      obtain ⟨z_37, rfl, rfl, w_37, H⟩ := P_37
      dsimp only [rs]
      refine j_aload_n (dk dt_X10_write 22 rfl) rfl ?_
      refine j_bipush (v := Int32.ofInt 61) (dk dt_X10_write 23 rfl) (by decide) ?_
      obtain ⟨k_43, H⟩ := H
      refine jz_callV1 (dk dt_X10_write 24 rfl) vl_X10_53 rfl (T_X10_put (by decide) w_37 H) k_43 rfl (by decide) (Nat.zero_le _) (Nat.zero_le _) (Nat.le_of_ble_eq_true rfl) (fun v_43 h_43 P_43 => ?_)
      obtain ⟨z_43, rfl, rfl, w_43, H⟩ := P_43
      dsimp only [rs]
      refine j_aload_n (dk dt_X10_write 25 rfl) rfl ?_
      refine j_aload_n (dk dt_X10_write 26 rfl) rfl ?_
      obtain ⟨k_48, H⟩ := H
      refine jz_getO (kz := 4) (dk dt_X10_write 27 rfl) fl_X10_49 rfl rfl rfl k_48 ?_
      obtain ⟨a_51, e_51, k_51, H⟩ := H
      refine jz_alen (t := 6) (dk dt_X10_write 28 rfl) e_51 k_51 (by decide) w_43 ?_
      refine j_iconst (v := Int32.ofInt 1) (dk dt_X10_write 29 rfl) (by decide) ?_
      refine jz_isub (dk dt_X10_write 30 rfl) ?_
      refine j_iconst (v := Int32.ofInt 0) (dk dt_X10_write 31 rfl) (by decide) ?_
      obtain ⟨n_55, hn_55, H⟩ := H
      refine jz_callV2 (dk dt_X10_write 32 rfl) vl_X10_56 rfl (T_X10_part (n := n_55) (r32_w _) (by decide) w_43 H) k_48 rfl (by omega) (Nat.zero_le _) (Nat.zero_le _) (Nat.le_of_ble_eq_true rfl) (fun v_55 h_55 P_55 => ?_)
      obtain ⟨z_55, rfl, rfl, w_55, H⟩ := P_55
      dsimp only [rs]
      exact j_return (dk dt_X10_write 33 rfl) rfl ⟨_, rfl, rfl, w_55, H⟩
    · refine j_aload_n (dk dt_X10_write 34 rfl) rfl ?_
      refine jz_getI (kz := 0) (dk dt_X10_write 35 rfl) fl_X10_40 rfl rfl e_21 k_21 ?_
      refine j_iconst (v := Int32.ofInt 2) (dk dt_X10_write 36 rfl) (by decide) ?_
      refine jz_icmp_ne 83 (dk dt_X10_write 37 rfl) (by decide) (w_12.1 _ _) (by decide) H (fun H => ?_) (fun H => ?_)
      · refine j_aload_n (dk dt_X10_write 38 rfl) rfl ?_
        refine jz_getO (kz := 1) (dk dt_X10_write 39 rfl) fl_X10_60 rfl rfl e_21 k_21 ?_
        refine j_callS1 (dk dt_X10_write 40 rfl) sl_X10_63 (T_X10_changesUnquoted w_12 H) rfl (by decide) (Nat.zero_le _) (Nat.zero_le _) (Nat.le_of_ble_eq_true rfl) (fun v_71 h_71 P_71 => ?_)
        obtain ⟨x_71, rfl, r_71, rfl, H⟩ := P_71
        dsimp only [rs]
        refine jz_if_eq 83 (dk dt_X10_write 41 rfl) (by decide) r_71 H (fun H => ?_) (fun H => ?_)
        · exact j_el (T_X10_write_83  w_12   H) (And.intro rfl (And.intro rfl trivial))
        · refine j_aload_n (dk dt_X10_write 42 rfl) rfl ?_
          refine j_bipush (v := Int32.ofInt 39) (dk dt_X10_write 43 rfl) (by decide) ?_
          refine jz_callV1 (dk dt_X10_write 44 rfl) vl_X10_53 rfl (T_X10_put (by decide) w_12 H) k_2 rfl (by decide) (Nat.zero_le _) (Nat.zero_le _) (Nat.le_of_ble_eq_true rfl) (fun v_80 h_80 P_80 => ?_)
          obtain ⟨z_80, rfl, rfl, w_80, H⟩ := P_80
          dsimp only [rs]
          exact j_el (T_X10_write_83  w_80   H) (And.intro rfl (And.intro rfl trivial))
      · exact j_el (T_X10_write_83  w_12   H) (And.intro rfl (And.intro rfl trivial))
def F_X2_ancestorsOf_22  (s0 : Int) (z : Z) (P : Int → Prop) : Prop :=
  P s0
theorem T_X2_ancestorsOf_22  {s0 : Int} {z : Z} {P : Int → Prop} (r_s0 : R64 s0) (hw : Wz z)   (H : F_X2_ancestorsOf_22 s0 z P) : J mX2_ancestorsOf 1 0 0 (nx (QPJ (cz z) P)) 22 [none, none] [ll (s0)] (cz z) := by
  unfold F_X2_ancestorsOf_22 at H
  exact j_lreturn (dk dt_X2_ancestorsOf 12 rfl) rfl ⟨_, rfl, r_s0, rfl, H⟩
def F_X2_ancestorsOf_21  (z : Z) (P : Int → Prop) : Prop :=
  F_X2_ancestorsOf_22 0 z P
theorem T_X2_ancestorsOf_21  {z : Z} {P : Int → Prop}  (hw : Wz z)   (H : F_X2_ancestorsOf_21 z P) : J mX2_ancestorsOf 1 0 0 (nx (QPJ (cz z) P)) 21 [none, none] [] (cz z) := by
  unfold F_X2_ancestorsOf_21 at H
  refine j_lconst (v := Int64.ofInt 0) (dk dt_X2_ancestorsOf 11 rfl) (by decide) ?_
  exact j_el (T_X2_ancestorsOf_22 (by decide) hw   H) trivial
def F_X2_ancestorsOf  (t0 : Nat) (x1 : Int) (z : Z) (P : Int → Prop) : Prop :=
  (if x1 < 0 then F_X2_ancestorsOf_21 z P else (zK z t0 = 3 ∧ (if zI z t0 4 ≤ x1 then F_X2_ancestorsOf_21 z P else (∃ a_17, zO z t0 3 = some a_17 ∧ zK z a_17 = 16 ∧ (0 ≤ x1 ∧ x1 < zN z a_17 ∧ F_X2_ancestorsOf_22 (zG z a_17 x1) z P)))))
theorem T_X2_ancestorsOf  {t0 : Nat} {x1 : Int} {z : Z} {P : Int → Prop} (r_x1 : R32 x1) (hw : Wz z)  (H : F_X2_ancestorsOf t0 x1 z P) : Con mX2_ancestorsOf 1 0 0 [vr (some t0), ii (x1)] (cz z) (QPJ (cz z) P) := by
  refine con_of rfl (Nat.le_of_ble_eq_true rfl) (by decide) ?_
  show J mX2_ancestorsOf 1 0 0 _ 0 [some (vr (some t0)), some (ii (x1))] [] (cz z)
  unfold F_X2_ancestorsOf at H
  refine j_iload_n (dk dt_X2_ancestorsOf 0 rfl) rfl ?_
  refine jz_if_lt 21 (dk dt_X2_ancestorsOf 1 rfl) (by decide) r_x1 H (fun H => ?_) (fun H => ?_)
  · exact j_el (T_X2_ancestorsOf_21  hw   H) trivial
  · refine j_iload_n (dk dt_X2_ancestorsOf 2 rfl) rfl ?_
    refine j_aload_n (dk dt_X2_ancestorsOf 3 rfl) rfl ?_
    obtain ⟨k_6, H⟩ := H
    refine jz_getI (kz := 4) (dk dt_X2_ancestorsOf 4 rfl) fl_X2_28 rfl rfl rfl k_6 ?_
    refine jz_icmp_ge 21 (dk dt_X2_ancestorsOf 5 rfl) (by decide) r_x1 (hw.1 _ _) H (fun H => ?_) (fun H => ?_)
    · exact j_el (T_X2_ancestorsOf_21  hw   H) trivial
    · refine j_aload_n (dk dt_X2_ancestorsOf 6 rfl) rfl ?_
      refine jz_getO (kz := 3) (dk dt_X2_ancestorsOf 7 rfl) fl_X2_24 rfl rfl rfl k_6 ?_
      refine j_iload_n (dk dt_X2_ancestorsOf 8 rfl) rfl ?_
      obtain ⟨a_17, e_17, k_17, H⟩ := H
      obtain ⟨p_17, q_17, H⟩ := H
      refine jz_lald (dk dt_X2_ancestorsOf 9 rfl) e_17 k_17 p_17 q_17 hw ?_
      refine j_goto 22 (dk dt_X2_ancestorsOf 10 rfl) (by decide) ?_
      exact j_el (T_X2_ancestorsOf_22 (hw.2.1 _ _) hw   H) trivial
def F_X2_commonOf  (t0 : Nat) (x1 : Int) (x2 : Int) (z : Z) (P : Int → Prop) : Prop :=
  (zK z t0 = 3 ∧ F_X2_ancestorsOf t0 x1 z (fun x_4 => F_X2_ancestorsOf t0 x2 z (fun x_9 => F_J13_numberOfLeadingZeros_95d88 (lAnd x_4 x_9) (fun x_13 => P (w32 (63 - x_13))))))
theorem T_X2_commonOf  {t0 : Nat} {x1 : Int} {x2 : Int} {z : Z} {P : Int → Prop} (r_x1 : R32 x1) (r_x2 : R32 x2) (hw : Wz z)  (H : F_X2_commonOf t0 x1 x2 z P) : Con mX2_commonOf 5 0 0 [vr (some t0), ii (x1), ii (x2)] (cz z) (QPI (cz z) P) := by
  refine con_of rfl (Nat.le_of_ble_eq_true rfl) (by decide) ?_
  show J mX2_commonOf 5 0 0 _ 0 [some (vr (some t0)), some (ii (x1)), some (ii (x2))] [] (cz z)
  unfold F_X2_commonOf at H
  refine j_bipush (v := Int32.ofInt 63) (dk dt_X2_commonOf 0 rfl) (by decide) ?_
  refine j_aload_n (dk dt_X2_commonOf 1 rfl) rfl ?_
  refine j_iload_n (dk dt_X2_commonOf 2 rfl) rfl ?_
  obtain ⟨k_4, H⟩ := H
  refine jz_callV1 (dk dt_X2_commonOf 3 rfl) vl_X2_32 rfl (T_X2_ancestorsOf r_x1 hw H) k_4 rfl (by decide) (Nat.zero_le _) (Nat.zero_le _) (Nat.le_of_ble_eq_true rfl) (fun v_4 h_4 P_4 => ?_)
  obtain ⟨x_4, rfl, r_4, rfl, H⟩ := P_4
  dsimp only [rs]
  refine j_aload_n (dk dt_X2_commonOf 4 rfl) rfl ?_
  refine j_iload_n (dk dt_X2_commonOf 5 rfl) rfl ?_
  refine jz_callV1 (dk dt_X2_commonOf 6 rfl) vl_X2_32 rfl (T_X2_ancestorsOf r_x2 hw H) k_4 rfl (by decide) (Nat.zero_le _) (Nat.zero_le _) (Nat.le_of_ble_eq_true rfl) (fun v_9 h_9 P_9 => ?_)
  obtain ⟨x_9, rfl, r_9, rfl, H⟩ := P_9
  dsimp only [rs]
  refine jz_land (dk dt_X2_commonOf 7 rfl) ?_
  refine j_callS1 (dk dt_X2_commonOf 8 rfl) sl_X2_36 (T_J13_numberOfLeadingZeros_95d88 (r64_t _) H) rfl (by decide) (Nat.zero_le _) (Nat.zero_le _) (Nat.le_of_ble_eq_true rfl) (fun v_13 h_13 P_13 => ?_)
  obtain ⟨x_13, rfl, r_13, rfl, H⟩ := P_13
  dsimp only [rs]
  refine jz_isub (dk dt_X2_commonOf 9 rfl) ?_
  exact j_ireturn (dk dt_X2_commonOf 10 rfl) rfl rfl ⟨_, rfl, (r32_w _), rfl, H⟩
def F_X11_base_35  (s0 : Int) (z : Z) (P : Int → Prop) : Prop :=
  P s0
theorem T_X11_base_35  {s0 : Int} {z : Z} {P : Int → Prop} (r_s0 : R32 s0) (hw : Wz z)   (H : F_X11_base_35 s0 z P) : J mX11_base 6 0 0 (nx (QPI (cz z) P)) 35 [none, none, none] [ii (s0)] (cz z) := by
  unfold F_X11_base_35 at H
  exact j_ireturn (dk dt_X11_base 17 rfl) rfl rfl ⟨_, rfl, r_s0, rfl, H⟩
def F_X11_base_22  (z : Z) (P : Int → Prop) : Prop :=
  F_X11_base_35 (-1) z P
theorem T_X11_base_22  {z : Z} {P : Int → Prop}  (hw : Wz z)   (H : F_X11_base_22 z P) : J mX11_base 6 0 0 (nx (QPI (cz z) P)) 22 [none, none, none] [] (cz z) := by
  unfold F_X11_base_22 at H
  refine j_iconst (v := Int32.ofInt (-1)) (dk dt_X11_base 10 rfl) (by decide) ?_
  refine j_goto 35 (dk dt_X11_base 11 rfl) (by decide) ?_
  exact j_el (T_X11_base_35 (by decide) hw   H) trivial
def F_X11_base  (t0 : Nat) (x1 : Int) (x2 : Int) (z : Z) (P : Int → Prop) : Prop :=
  (zK z t0 = 12 ∧ (∃ a_5, zO z t0 2 = some a_5 ∧ zK z a_5 = 3 ∧ F_X2_at a_5 x1 z (fun x_5 => (if x_5 = none then F_X11_base_22 z P else F_X2_at a_5 x2 z (fun x_16 => (if x_16 = none then F_X11_base_22 z P else F_X2_commonOf a_5 x1 x2 z (fun x_32 => F_X11_base_35 x_32 z P)))))))
theorem T_X11_base  {t0 : Nat} {x1 : Int} {x2 : Int} {z : Z} {P : Int → Prop} (r_x1 : R32 x1) (r_x2 : R32 x2) (hw : Wz z)  (H : F_X11_base t0 x1 x2 z P) : Con mX11_base 6 0 0 [vr (some t0), ii (x1), ii (x2)] (cz z) (QPI (cz z) P) := by
  refine con_of rfl (Nat.le_of_ble_eq_true rfl) (by decide) ?_
  show J mX11_base 6 0 0 _ 0 [some (vr (some t0)), some (ii (x1)), some (ii (x2))] [] (cz z)
  unfold F_X11_base at H
  refine j_aload_n (dk dt_X11_base 0 rfl) rfl ?_
  obtain ⟨k_1, H⟩ := H
  refine jz_getO (kz := 2) (dk dt_X11_base 1 rfl) fl_X11_26 rfl rfl rfl k_1 ?_
  refine j_iload_n (dk dt_X11_base 2 rfl) rfl ?_
  obtain ⟨a_5, e_5, k_5, H⟩ := H
  refine jz_callV1 (dk dt_X11_base 3 rfl) vl_X11_269 e_5 (T_X2_at r_x1 hw H) k_5 rfl (by decide) (Nat.zero_le _) (Nat.zero_le _) (Nat.le_of_ble_eq_true rfl) (fun v_5 h_5 P_5 => ?_)
  obtain ⟨x_5, rfl, rfl, H⟩ := P_5
  dsimp only [rs]
  refine jz_ifnull 22 (dk dt_X11_base 4 rfl) (by decide) H (fun H => ?_) (fun H => ?_)
  · exact j_el (T_X11_base_22  hw   H) trivial
  · refine j_aload_n (dk dt_X11_base 5 rfl) rfl ?_
    refine jz_getO (kz := 2) (dk dt_X11_base 6 rfl) fl_X11_26 rfl rfl rfl k_1 ?_
    refine j_iload_n (dk dt_X11_base 7 rfl) rfl ?_
    refine jz_callV1 (dk dt_X11_base 8 rfl) vl_X11_269 e_5 (T_X2_at r_x2 hw H) k_5 rfl (by decide) (Nat.zero_le _) (Nat.zero_le _) (Nat.le_of_ble_eq_true rfl) (fun v_16 h_16 P_16 => ?_)
    obtain ⟨x_16, rfl, rfl, H⟩ := P_16
    dsimp only [rs]
    refine jz_ifnonnull 26 (dk dt_X11_base 9 rfl) (by decide) H (fun H => ?_) (fun H => ?_)
    · exact j_el (T_X11_base_22  hw   H) trivial
    · refine j_aload_n (dk dt_X11_base 12 rfl) rfl ?_
      refine jz_getO (kz := 2) (dk dt_X11_base 13 rfl) fl_X11_26 rfl rfl rfl k_1 ?_
      refine j_iload_n (dk dt_X11_base 14 rfl) rfl ?_
      refine j_iload_n (dk dt_X11_base 15 rfl) rfl ?_
      refine jz_callV2 (dk dt_X11_base 16 rfl) vl_X11_275 e_5 (T_X2_commonOf r_x1 r_x2 hw H) k_5 rfl (by decide) (Nat.zero_le _) (Nat.zero_le _) (Nat.le_of_ble_eq_true rfl) (fun v_32 h_32 P_32 => ?_)
      obtain ⟨x_32, rfl, r_32, rfl, H⟩ := P_32
      dsimp only [rs]
      exact j_el (T_X11_base_35 r_32 hw   H) trivial
def F_X11_head  (t0 : Nat) (z : Z) (P : Int → Prop) : Prop :=
  (zK z t0 = 12 ∧ (∃ a_8, zO z t0 8 = some a_8 ∧ zK z a_8 = 15 ∧ (0 ≤ zI z t0 12 ∧ zI z t0 12 < zN z a_8 ∧ P (zI z a_8 (zI z t0 12)))))
theorem T_X11_head  {t0 : Nat} {z : Z} {P : Int → Prop}  (hw : Wz z)  (H : F_X11_head t0 z P) : Con mX11_head 1 0 0 [vr (some t0)] (cz z) (QPI (cz z) P) := by
  refine con_of rfl (Nat.le_of_ble_eq_true rfl) (by decide) ?_
  show J mX11_head 1 0 0 _ 0 [some (vr (some t0))] [] (cz z)
  unfold F_X11_head at H
  refine j_aload_n (dk dt_X11_head 0 rfl) rfl ?_
  obtain ⟨k_1, H⟩ := H
  refine jz_getO (kz := 8) (dk dt_X11_head 1 rfl) fl_X11_70 rfl rfl rfl k_1 ?_
  refine j_aload_n (dk dt_X11_head 2 rfl) rfl ?_
  refine jz_getI (kz := 12) (dk dt_X11_head 3 rfl) fl_X11_246 rfl rfl rfl k_1 ?_
  obtain ⟨a_8, e_8, k_8, H⟩ := H
  obtain ⟨p_8, q_8, H⟩ := H
  refine jz_iald (dk dt_X11_head 4 rfl) e_8 k_8 p_8 q_8 hw ?_
  exact j_ireturn (dk dt_X11_head 5 rfl) rfl rfl ⟨_, rfl, (hw.1 _ _), rfl, H⟩
def F_X8_compared_119  (t0 : Nat) (x1 : Option Nat) (x2 : Int) (z : Z) (P : Int ⊕ ((Unit) ⊕ (Int)) → Prop) : Prop :=
  P (.inl (w32 (x2 + 1)))
theorem T_X8_compared_119  {t0 : Nat} {x1 : Option Nat} {x2 : Int} {z : Z} {P : Int ⊕ ((Unit) ⊕ (Int)) → Prop} {post : Option Sv ⊕ String → Hp → Prop} (r_x2 : R32 x2) (hw : Wz z)  (hl : ∀ (x2 : Int), P (.inl x2) → R32 x2 → J mX8_compared 1 0 0 post 52 [some (vr (some t0)), some (vr (x1)), some (ii (x2))] [] (cz z)) (he0 : P (.inr (.inl ())) → J mX8_compared 1 0 0 post 125 [some (vr (some t0)), some (vr (x1)), none] [] (cz z)) (he1 : ∀ (x2 : Int), P (.inr (.inr x2)) → R32 x2 → J mX8_compared 1 0 0 post 105 [some (vr (some t0)), some (vr (x1)), some (ii (x2))] [] (cz z)) (H : F_X8_compared_119 t0 x1 x2 z P) : J mX8_compared 1 0 0 (post) 119 [some (vr (some t0)), some (vr (x1)), some (ii (x2))] [] (cz z) := by
  unfold F_X8_compared_119 at H
  refine jz_iinc (dk dt_X8_compared 69 rfl) rfl ?_
  refine j_goto 52 (dk dt_X8_compared 70 rfl) (by decide) ?_
  exact j_el (hl _ H (r32_w _)) (And.intro rfl (And.intro rfl (And.intro rfl trivial)))
def L_X8_compared_52  (t0 : Nat) (x1 : Option Nat) (x2 : Int) (z : Z) (P : Int ⊕ ((Unit) ⊕ (Int)) → Prop) : Prop :=
  (zK z t0 = 9 ∧ (if zG z t0 2 ≤ x2 then P (.inr (.inl ())) else (∃ a_65, x1 = some a_65 ∧ zK z a_65 = 9 ∧ (if zG z a_65 2 ≤ x2 then P (.inr (.inl ())) else (∃ a_77, zO z t0 0 = some a_77 ∧ zK z a_77 = 14 ∧ (if zN z a_77 ≤ x2 then F_X8_compared_119 t0 x1 x2 z P else (∃ a_86, zO z a_65 0 = some a_86 ∧ zK z a_86 = 14 ∧ (if zN z a_86 ≤ x2 then F_X8_compared_119 t0 x1 x2 z P else (0 ≤ x2 ∧ x2 < zN z a_77 ∧ (0 ≤ x2 ∧ x2 < zN z a_86 ∧ (if zI z a_77 x2 = zI z a_86 x2 then F_X8_compared_119 t0 x1 x2 z P else P (.inr (.inr x2)))))))))))))
theorem U_X8_compared_52  {t0 : Nat} {x1 : Option Nat} {x2 : Int} {z : Z} {P : Int ⊕ ((Unit) ⊕ (Int)) → Prop} {post : Option Sv ⊕ String → Hp → Prop} (r_x2 : R32 x2) (hw : Wz z)  (hl : ∀ (x2 : Int), P (.inl x2) → R32 x2 → J mX8_compared 1 0 0 post 52 [some (vr (some t0)), some (vr (x1)), some (ii (x2))] [] (cz z)) (he0 : P (.inr (.inl ())) → J mX8_compared 1 0 0 post 125 [some (vr (some t0)), some (vr (x1)), none] [] (cz z)) (he1 : ∀ (x2 : Int), P (.inr (.inr x2)) → R32 x2 → J mX8_compared 1 0 0 post 105 [some (vr (some t0)), some (vr (x1)), some (ii (x2))] [] (cz z)) (H : L_X8_compared_52 t0 x1 x2 z P) : J mX8_compared 1 0 0 post 52 [some (vr (some t0)), some (vr (x1)), some (ii (x2))] [] (cz z) := by
  unfold L_X8_compared_52 at H
  refine j_iload_n (dk dt_X8_compared 28 rfl) rfl ?_
  refine jz_i2l (dk dt_X8_compared 29 rfl) r_x2 ?_
  refine j_aload_n (dk dt_X8_compared 30 rfl) rfl ?_
  obtain ⟨k_55, H⟩ := H
  refine jz_getG (kz := 2) (dk dt_X8_compared 31 rfl) fl_X8_25 rfl rfl rfl k_55 ?_
  refine jz_lcmp (dk dt_X8_compared 32 rfl) (r64_3 r_x2) (hw.2.1 _ _) ?_
  refine jz_lif_ge 125 (dk dt_X8_compared 33 rfl) (by decide) H (fun H => ?_) (fun H => ?_)
  · exact j_el (he0  H ) (And.intro rfl (And.intro rfl trivial))
  · refine j_iload_n (dk dt_X8_compared 34 rfl) rfl ?_
    refine jz_i2l (dk dt_X8_compared 35 rfl) r_x2 ?_
    refine j_aload_n (dk dt_X8_compared 36 rfl) rfl ?_
    obtain ⟨a_65, e_65, k_65, H⟩ := H
    refine jz_getG (kz := 2) (dk dt_X8_compared 37 rfl) fl_X8_25 rfl rfl e_65 k_65 ?_
    refine jz_lcmp (dk dt_X8_compared 38 rfl) (r64_3 r_x2) (hw.2.1 _ _) ?_
    refine jz_lif_ge 125 (dk dt_X8_compared 39 rfl) (by decide) H (fun H => ?_) (fun H => ?_)
    · exact j_el (he0  H ) (And.intro rfl (And.intro rfl trivial))
    · refine j_iload_n (dk dt_X8_compared 40 rfl) rfl ?_
      refine j_aload_n (dk dt_X8_compared 41 rfl) rfl ?_
      refine jz_getO (kz := 0) (dk dt_X8_compared 42 rfl) fl_X8_15 rfl rfl rfl k_55 ?_
      obtain ⟨a_77, e_77, k_77, H⟩ := H
      refine jz_alen (t := 0) (dk dt_X8_compared 43 rfl) e_77 k_77 (by decide) hw ?_
      refine jz_icmp_ge 119 (dk dt_X8_compared 44 rfl) (by decide) r_x2 (r32_len hw _) H (fun H => ?_) (fun H => ?_)
      · exact j_el (T_X8_compared_119 r_x2 hw  hl he0 he1 H) (And.intro rfl (And.intro rfl (And.intro rfl trivial)))
      · refine j_iload_n (dk dt_X8_compared 45 rfl) rfl ?_
        refine j_aload_n (dk dt_X8_compared 46 rfl) rfl ?_
        refine jz_getO (kz := 0) (dk dt_X8_compared 47 rfl) fl_X8_15 rfl rfl e_65 k_65 ?_
        obtain ⟨a_86, e_86, k_86, H⟩ := H
        refine jz_alen (t := 0) (dk dt_X8_compared 48 rfl) e_86 k_86 (by decide) hw ?_
        refine jz_icmp_ge 119 (dk dt_X8_compared 49 rfl) (by decide) r_x2 (r32_len hw _) H (fun H => ?_) (fun H => ?_)
        · exact j_el (T_X8_compared_119 r_x2 hw  hl he0 he1 H) (And.intro rfl (And.intro rfl (And.intro rfl trivial)))
        · refine j_aload_n (dk dt_X8_compared 50 rfl) rfl ?_
          refine jz_getO (kz := 0) (dk dt_X8_compared 51 rfl) fl_X8_15 rfl rfl rfl k_55 ?_
          refine j_iload_n (dk dt_X8_compared 52 rfl) rfl ?_
          obtain ⟨p_95, q_95, H⟩ := H
          refine jz_bald (dk dt_X8_compared 53 rfl) e_77 k_77 p_95 q_95 hw ?_
          refine j_aload_n (dk dt_X8_compared 54 rfl) rfl ?_
          refine jz_getO (kz := 0) (dk dt_X8_compared 55 rfl) fl_X8_15 rfl rfl e_65 k_65 ?_
          refine j_iload_n (dk dt_X8_compared 56 rfl) rfl ?_
          obtain ⟨p_101, q_101, H⟩ := H
          refine jz_bald (dk dt_X8_compared 57 rfl) e_86 k_86 p_101 q_101 hw ?_
          refine jz_icmp_eq 119 (dk dt_X8_compared 58 rfl) (by decide) (hw.1 _ _) (hw.1 _ _) H (fun H => ?_) (fun H => ?_)
          · exact j_el (T_X8_compared_119 r_x2 hw  hl he0 he1 H) (And.intro rfl (And.intro rfl (And.intro rfl trivial)))
          · exact j_el (he1 _ H r_x2) (And.intro rfl (And.intro rfl (And.intro rfl trivial)))
def F_X8_compared_125  (t0 : Nat) (x1 : Option Nat) (z : Z) (P : Int → Prop) : Prop :=
  (zK z t0 = 9 ∧ (∃ a_130, x1 = some a_130 ∧ zK z a_130 = 9 ∧ P (w32 (w64 ((zG z t0 2) - (zG z a_130 2))))))
theorem T_X8_compared_125  {t0 : Nat} {x1 : Option Nat} {z : Z} {P : Int → Prop}  (hw : Wz z)   (H : F_X8_compared_125 t0 x1 z P) : J mX8_compared 1 0 0 (nx (QPI (cz z) P)) 125 [some (vr (some t0)), some (vr (x1)), none] [] (cz z) := by
  unfold F_X8_compared_125 at H
  refine j_aload_n (dk dt_X8_compared 71 rfl) rfl ?_
  obtain ⟨k_126, H⟩ := H
  refine jz_getG (kz := 2) (dk dt_X8_compared 72 rfl) fl_X8_25 rfl rfl rfl k_126 ?_
  refine j_aload_n (dk dt_X8_compared 73 rfl) rfl ?_
  obtain ⟨a_130, e_130, k_130, H⟩ := H
  refine jz_getG (kz := 2) (dk dt_X8_compared 74 rfl) fl_X8_25 rfl rfl e_130 k_130 ?_
  refine jz_lsub (dk dt_X8_compared 75 rfl) ?_
  refine jz_l2i (dk dt_X8_compared 76 rfl) ?_
  exact j_ireturn (dk dt_X8_compared 77 rfl) rfl rfl ⟨_, rfl, (r32_w _), rfl, H⟩
def F_X8_compared_52  (t0 : Nat) (x1 : Option Nat) (x2 : Int) (z : Z) (P : Int → Prop) : Prop :=
  lp (S := Int) (E := (Unit) ⊕ (Int)) (fun q P_ => L_X8_compared_52 t0 x1 q z P_) x2 (fun e => match e with | (.inl _) => F_X8_compared_125 t0 x1 z P | (.inr x2) => (zK z t0 = 9 ∧ (∃ a_110, zO z t0 0 = some a_110 ∧ zK z a_110 = 14 ∧ (0 ≤ x2 ∧ x2 < zN z a_110 ∧ (∃ a_112, x1 = some a_112 ∧ zK z a_112 = 9 ∧ (∃ a_116, zO z a_112 0 = some a_116 ∧ zK z a_116 = 14 ∧ (0 ≤ x2 ∧ x2 < zN z a_116 ∧ P (w32 ((zI z a_110 x2) - (zI z a_116 x2))))))))))
theorem T_X8_compared_52  {t0 : Nat} {x1 : Option Nat} {x2 : Int} {z : Z} {P : Int → Prop} (r_x2 : R32 x2) (hw : Wz z)   (H : F_X8_compared_52 t0 x1 x2 z P) : J mX8_compared 1 0 0 (nx (QPI (cz z) P)) 52 [some (vr (some t0)), some (vr (x1)), some (ii (x2))] [] (cz z) := by
  unfold F_X8_compared_52 at H
  refine lp_J (G := fun q => R32 (q) → J mX8_compared 1 0 0 (nx (QPI (cz z) P)) 52 [some (vr (some t0)), some (vr (x1)), some (ii ((q)))] [] (cz z)) (fun x2 P_ hl_ he_ Hb => ?_) x2 H r_x2
  intro r_x2
  refine U_X8_compared_52 (P := P_) r_x2 hw  (fun x2 Hp r_x2 => hl_ x2 Hp r_x2) ?_ ?_ Hb
  · intro Hp
    have H := he_ _ Hp
    exact j_el (T_X8_compared_125  hw   H) (And.intro rfl (And.intro rfl trivial))
  · intro x2 Hp r_x2
    have H := he_ _ Hp
    refine j_aload_n (dk dt_X8_compared 59 rfl) rfl ?_
    obtain ⟨k_106, H⟩ := H
    refine jz_getO (kz := 0) (dk dt_X8_compared 60 rfl) fl_X8_15 rfl rfl rfl k_106 ?_
    refine j_iload_n (dk dt_X8_compared 61 rfl) rfl ?_
    obtain ⟨a_110, e_110, k_110, H⟩ := H
    obtain ⟨p_110, q_110, H⟩ := H
    refine jz_bald (dk dt_X8_compared 62 rfl) e_110 k_110 p_110 q_110 hw ?_
    refine j_aload_n (dk dt_X8_compared 63 rfl) rfl ?_
    obtain ⟨a_112, e_112, k_112, H⟩ := H
    refine jz_getO (kz := 0) (dk dt_X8_compared 64 rfl) fl_X8_15 rfl rfl e_112 k_112 ?_
    refine j_iload_n (dk dt_X8_compared 65 rfl) rfl ?_
    obtain ⟨a_116, e_116, k_116, H⟩ := H
    obtain ⟨p_116, q_116, H⟩ := H
    refine jz_bald (dk dt_X8_compared 66 rfl) e_116 k_116 p_116 q_116 hw ?_
    refine jz_isub (dk dt_X8_compared 67 rfl) ?_
    exact j_ireturn (dk dt_X8_compared 68 rfl) rfl rfl ⟨_, rfl, (r32_w _), rfl, H⟩
def F_X8_compared_50  (t0 : Nat) (x1 : Option Nat) (z : Z) (P : Int → Prop) : Prop :=
  F_X8_compared_52 t0 x1 0 z P
theorem T_X8_compared_50  {t0 : Nat} {x1 : Option Nat} {z : Z} {P : Int → Prop}  (hw : Wz z)   (H : F_X8_compared_50 t0 x1 z P) : J mX8_compared 1 0 0 (nx (QPI (cz z) P)) 50 [some (vr (some t0)), some (vr (x1)), none] [] (cz z) := by
  unfold F_X8_compared_50 at H
  refine j_iconst (v := Int32.ofInt 0) (dk dt_X8_compared 26 rfl) (by decide) ?_
  refine j_istore_n (dk dt_X8_compared 27 rfl) (by decide) ?_
  exact j_el (T_X8_compared_52 (by decide) hw   H) (And.intro rfl (And.intro rfl (And.intro rfl trivial)))
def F_X8_compared_49  (s0 : Int) (z : Z) (P : Int → Prop) : Prop :=
  P s0
theorem T_X8_compared_49  {s0 : Int} {z : Z} {P : Int → Prop} (r_s0 : R32 s0) (hw : Wz z)   (H : F_X8_compared_49 s0 z P) : J mX8_compared 1 0 0 (nx (QPI (cz z) P)) 49 [none, none, none] [ii (s0)] (cz z) := by
  unfold F_X8_compared_49 at H
  exact j_ireturn (dk dt_X8_compared 25 rfl) rfl rfl ⟨_, rfl, r_s0, rfl, H⟩
def F_X8_compared  (t0 : Nat) (x1 : Option Nat) (z : Z) (P : Int → Prop) : Prop :=
  (zK z t0 = 9 ∧ (if zI z t0 1 = 2 then F_X8_compared_50 t0 x1 z P else (∃ a_9, x1 = some a_9 ∧ zK z a_9 = 9 ∧ (if zI z a_9 1 = 2 then F_X8_compared_50 t0 x1 z P else (if zG z a_9 2 ≤ zG z t0 2 then (if zG z t0 2 ≤ zG z a_9 2 then F_X8_compared_49 0 z P else F_X8_compared_49 1 z P) else F_X8_compared_49 (-1) z P)))))
theorem T_X8_compared  {t0 : Nat} {x1 : Option Nat} {z : Z} {P : Int → Prop}  (hw : Wz z)  (H : F_X8_compared t0 x1 z P) : Con mX8_compared 1 0 0 [vr (some t0), vr (x1)] (cz z) (QPI (cz z) P) := by
  refine con_of rfl (Nat.le_of_ble_eq_true rfl) (by decide) ?_
  show J mX8_compared 1 0 0 _ 0 [some (vr (some t0)), some (vr (x1)), none] [] (cz z)
  unfold F_X8_compared at H
  refine j_aload_n (dk dt_X8_compared 0 rfl) rfl ?_
  obtain ⟨k_1, H⟩ := H
  refine jz_getI (kz := 1) (dk dt_X8_compared 1 rfl) fl_X8_21 rfl rfl rfl k_1 ?_
  refine j_iconst (v := Int32.ofInt 2) (dk dt_X8_compared 2 rfl) (by decide) ?_
  refine jz_icmp_eq 50 (dk dt_X8_compared 3 rfl) (by decide) (hw.1 _ _) (by decide) H (fun H => ?_) (fun H => ?_)
  · exact j_el (T_X8_compared_50  hw   H) (And.intro rfl (And.intro rfl trivial))
  · refine j_aload_n (dk dt_X8_compared 4 rfl) rfl ?_
    obtain ⟨a_9, e_9, k_9, H⟩ := H
    refine jz_getI (kz := 1) (dk dt_X8_compared 5 rfl) fl_X8_21 rfl rfl e_9 k_9 ?_
    refine j_iconst (v := Int32.ofInt 2) (dk dt_X8_compared 6 rfl) (by decide) ?_
    refine jz_icmp_eq 50 (dk dt_X8_compared 7 rfl) (by decide) (hw.1 _ _) (by decide) H (fun H => ?_) (fun H => ?_)
    · exact j_el (T_X8_compared_50  hw   H) (And.intro rfl (And.intro rfl trivial))
    · refine j_aload_n (dk dt_X8_compared 8 rfl) rfl ?_
      refine jz_getG (kz := 2) (dk dt_X8_compared 9 rfl) fl_X8_25 rfl rfl rfl k_1 ?_
      refine j_aload_n (dk dt_X8_compared 10 rfl) rfl ?_
      refine jz_getG (kz := 2) (dk dt_X8_compared 11 rfl) fl_X8_25 rfl rfl e_9 k_9 ?_
      refine jz_lcmp (dk dt_X8_compared 12 rfl) (hw.2.1 _ _) (hw.2.1 _ _) ?_
      refine jz_lif_ge 32 (dk dt_X8_compared 13 rfl) (by decide) H (fun H => ?_) (fun H => ?_)
      · refine j_aload_n (dk dt_X8_compared 16 rfl) rfl ?_
        refine jz_getG (kz := 2) (dk dt_X8_compared 17 rfl) fl_X8_25 rfl rfl rfl k_1 ?_
        refine j_aload_n (dk dt_X8_compared 18 rfl) rfl ?_
        refine jz_getG (kz := 2) (dk dt_X8_compared 19 rfl) fl_X8_25 rfl rfl e_9 k_9 ?_
        refine jz_lcmp (dk dt_X8_compared 20 rfl) (hw.2.1 _ _) (hw.2.1 _ _) ?_
        refine jz_lif_le 48 (dk dt_X8_compared 21 rfl) (by decide) H (fun H => ?_) (fun H => ?_)
        · refine j_iconst (v := Int32.ofInt 0) (dk dt_X8_compared 24 rfl) (by decide) ?_
          exact j_el (T_X8_compared_49 (by decide) hw   H) trivial
        · refine j_iconst (v := Int32.ofInt 1) (dk dt_X8_compared 22 rfl) (by decide) ?_
          refine j_goto 49 (dk dt_X8_compared 23 rfl) (by decide) ?_
          exact j_el (T_X8_compared_49 (by decide) hw   H) trivial
      · refine j_iconst (v := Int32.ofInt (-1)) (dk dt_X8_compared 14 rfl) (by decide) ?_
        refine j_goto 49 (dk dt_X8_compared 15 rfl) (by decide) ?_
        exact j_el (T_X8_compared_49 (by decide) hw   H) trivial
def F_X4_isLike_149  (s0 : Int) (z : Z) (P : Int → Prop) : Prop :=
  (Z1 s0 ∧ P s0)
theorem T_X4_isLike_149  {s0 : Int} {z : Z} {P : Int → Prop} (r_s0 : R32 s0) (hw : Wz z)   (H : F_X4_isLike_149 s0 z P) : J mX4_isLike 2 0 0 (nx (QPI (cz z) P)) 149 [none, none] [ii (s0)] (cz z) := by
  unfold F_X4_isLike_149 at H
  obtain ⟨hz_, H⟩ := H
  exact j_ireturn (dk dt_X4_isLike 67 rfl) rfl (nar_z hz_) ⟨_, rfl, r_s0, rfl, H⟩
def F_X4_isLike_144  (z : Z) (P : Int → Prop) : Prop :=
  F_X4_isLike_149 1 z P
theorem T_X4_isLike_144  {z : Z} {P : Int → Prop}  (hw : Wz z)   (H : F_X4_isLike_144 z P) : J mX4_isLike 2 0 0 (nx (QPI (cz z) P)) 144 [none, none] [] (cz z) := by
  unfold F_X4_isLike_144 at H
  refine j_iconst (v := Int32.ofInt 1) (dk dt_X4_isLike 64 rfl) (by decide) ?_
  refine j_goto 149 (dk dt_X4_isLike 65 rfl) (by decide) ?_
  exact j_el (T_X4_isLike_149 (by decide) hw   H) trivial
def F_X4_isLike_148  (z : Z) (P : Int → Prop) : Prop :=
  F_X4_isLike_149 0 z P
theorem T_X4_isLike_148  {z : Z} {P : Int → Prop}  (hw : Wz z)   (H : F_X4_isLike_148 z P) : J mX4_isLike 2 0 0 (nx (QPI (cz z) P)) 148 [none, none] [] (cz z) := by
  unfold F_X4_isLike_148 at H
  refine j_iconst (v := Int32.ofInt 0) (dk dt_X4_isLike 66 rfl) (by decide) ?_
  exact j_el (T_X4_isLike_149 (by decide) hw   H) trivial
def F_X4_isLike  (t0 : Nat) (x1 : Option Nat) (z : Z) (P : Int → Prop) : Prop :=
  (zK z t0 = 5 ∧ (∃ a_5, x1 = some a_5 ∧ zK z a_5 = 5 ∧ (if zI z t0 0 = zI z a_5 0 then (if zI z t0 1 = zI z a_5 1 then (if zI z t0 3 = zI z a_5 3 then (if zI z t0 4 = zI z a_5 4 then (if zI z t0 5 = zI z a_5 5 then (if zI z t0 6 = zI z a_5 6 then (if zI z t0 7 = zI z a_5 7 then (if zI z t0 8 = zI z a_5 8 then (if zO z t0 2 = zO z a_5 2 then F_X4_isLike_144 z P else (if zO z t0 2 = none then F_X4_isLike_148 z P else (if zO z a_5 2 = none then F_X4_isLike_148 z P else (∃ a_117, zO z t0 2 = some a_117 ∧ zK z a_117 = 9 ∧ (∃ a_124, zO z a_5 2 = some a_124 ∧ zK z a_124 = 9 ∧ (if zI z a_117 1 = zI z a_124 1 then F_X8_compared a_117 (zO z a_5 2) z (fun x_138 => (if x_138 = 0 then F_X4_isLike_144 z P else F_X4_isLike_148 z P)) else F_X4_isLike_148 z P)))))) else F_X4_isLike_148 z P) else F_X4_isLike_148 z P) else F_X4_isLike_148 z P) else F_X4_isLike_148 z P) else F_X4_isLike_148 z P) else F_X4_isLike_148 z P) else F_X4_isLike_148 z P) else F_X4_isLike_148 z P)))
theorem T_X4_isLike  {t0 : Nat} {x1 : Option Nat} {z : Z} {P : Int → Prop}  (hw : Wz z)  (H : F_X4_isLike t0 x1 z P) : Con mX4_isLike 2 0 0 [vr (some t0), vr (x1)] (cz z) (QPI (cz z) P) := by
  refine con_of rfl (Nat.le_of_ble_eq_true rfl) (by decide) ?_
  show J mX4_isLike 2 0 0 _ 0 [some (vr (some t0)), some (vr (x1))] [] (cz z)
  unfold F_X4_isLike at H
  refine j_aload_n (dk dt_X4_isLike 0 rfl) rfl ?_
  obtain ⟨k_1, H⟩ := H
  refine jz_getI (kz := 0) (dk dt_X4_isLike 1 rfl) fl_X4_15 rfl rfl rfl k_1 ?_
  refine j_aload_n (dk dt_X4_isLike 2 rfl) rfl ?_
  obtain ⟨a_5, e_5, k_5, H⟩ := H
  refine jz_getI (kz := 0) (dk dt_X4_isLike 3 rfl) fl_X4_15 rfl rfl e_5 k_5 ?_
  refine jz_icmp_ne 148 (dk dt_X4_isLike 4 rfl) (by decide) (hw.1 _ _) (hw.1 _ _) H (fun H => ?_) (fun H => ?_)
  · refine j_aload_n (dk dt_X4_isLike 5 rfl) rfl ?_
    refine jz_getI (kz := 1) (dk dt_X4_isLike 6 rfl) fl_X4_18 rfl rfl rfl k_1 ?_
    refine j_aload_n (dk dt_X4_isLike 7 rfl) rfl ?_
    refine jz_getI (kz := 1) (dk dt_X4_isLike 8 rfl) fl_X4_18 rfl rfl e_5 k_5 ?_
    refine jz_icmp_ne 148 (dk dt_X4_isLike 9 rfl) (by decide) (hw.1 _ _) (hw.1 _ _) H (fun H => ?_) (fun H => ?_)
    · refine j_aload_n (dk dt_X4_isLike 10 rfl) rfl ?_
      refine jz_getI (kz := 3) (dk dt_X4_isLike 11 rfl) fl_X4_25 rfl rfl rfl k_1 ?_
      refine j_aload_n (dk dt_X4_isLike 12 rfl) rfl ?_
      refine jz_getI (kz := 3) (dk dt_X4_isLike 13 rfl) fl_X4_25 rfl rfl e_5 k_5 ?_
      refine jz_icmp_ne 148 (dk dt_X4_isLike 14 rfl) (by decide) (hw.1 _ _) (hw.1 _ _) H (fun H => ?_) (fun H => ?_)
      · refine j_aload_n (dk dt_X4_isLike 15 rfl) rfl ?_
        refine jz_getI (kz := 4) (dk dt_X4_isLike 16 rfl) fl_X4_28 rfl rfl rfl k_1 ?_
        refine j_aload_n (dk dt_X4_isLike 17 rfl) rfl ?_
        refine jz_getI (kz := 4) (dk dt_X4_isLike 18 rfl) fl_X4_28 rfl rfl e_5 k_5 ?_
        refine jz_icmp_ne 148 (dk dt_X4_isLike 19 rfl) (by decide) (hw.1 _ _) (hw.1 _ _) H (fun H => ?_) (fun H => ?_)
        · refine j_aload_n (dk dt_X4_isLike 20 rfl) rfl ?_
          refine jz_getI (kz := 5) (dk dt_X4_isLike 21 rfl) fl_X4_31 rfl rfl rfl k_1 ?_
          refine j_aload_n (dk dt_X4_isLike 22 rfl) rfl ?_
          refine jz_getI (kz := 5) (dk dt_X4_isLike 23 rfl) fl_X4_31 rfl rfl e_5 k_5 ?_
          refine jz_icmp_ne 148 (dk dt_X4_isLike 24 rfl) (by decide) (hw.1 _ _) (hw.1 _ _) H (fun H => ?_) (fun H => ?_)
          · refine j_aload_n (dk dt_X4_isLike 25 rfl) rfl ?_
            refine jz_getI (kz := 6) (dk dt_X4_isLike 26 rfl) fl_X4_34 rfl rfl rfl k_1 ?_
            refine j_aload_n (dk dt_X4_isLike 27 rfl) rfl ?_
            refine jz_getI (kz := 6) (dk dt_X4_isLike 28 rfl) fl_X4_34 rfl rfl e_5 k_5 ?_
            refine jz_icmp_ne 148 (dk dt_X4_isLike 29 rfl) (by decide) (hw.1 _ _) (hw.1 _ _) H (fun H => ?_) (fun H => ?_)
            · refine j_aload_n (dk dt_X4_isLike 30 rfl) rfl ?_
              refine jz_getI (kz := 7) (dk dt_X4_isLike 31 rfl) fl_X4_37 rfl rfl rfl k_1 ?_
              refine j_aload_n (dk dt_X4_isLike 32 rfl) rfl ?_
              refine jz_getI (kz := 7) (dk dt_X4_isLike 33 rfl) fl_X4_37 rfl rfl e_5 k_5 ?_
              refine jz_icmp_ne 148 (dk dt_X4_isLike 34 rfl) (by decide) (hw.1 _ _) (hw.1 _ _) H (fun H => ?_) (fun H => ?_)
              · refine j_aload_n (dk dt_X4_isLike 35 rfl) rfl ?_
                refine jz_getI (kz := 8) (dk dt_X4_isLike 36 rfl) fl_X4_9 rfl rfl rfl k_1 ?_
                refine j_aload_n (dk dt_X4_isLike 37 rfl) rfl ?_
                refine jz_getI (kz := 8) (dk dt_X4_isLike 38 rfl) fl_X4_9 rfl rfl e_5 k_5 ?_
                refine jz_icmp_ne 148 (dk dt_X4_isLike 39 rfl) (by decide) (hw.1 _ _) (hw.1 _ _) H (fun H => ?_) (fun H => ?_)
                · refine j_aload_n (dk dt_X4_isLike 40 rfl) rfl ?_
                  refine jz_getO (kz := 2) (dk dt_X4_isLike 41 rfl) fl_X4_21 rfl rfl rfl k_1 ?_
                  refine j_aload_n (dk dt_X4_isLike 42 rfl) rfl ?_
                  refine jz_getO (kz := 2) (dk dt_X4_isLike 43 rfl) fl_X4_21 rfl rfl e_5 k_5 ?_
                  refine jz_acmp_eq 144 (dk dt_X4_isLike 44 rfl) (by decide) H (fun H => ?_) (fun H => ?_)
                  · exact j_el (T_X4_isLike_144  hw   H) trivial
                  · refine j_aload_n (dk dt_X4_isLike 45 rfl) rfl ?_
                    refine jz_getO (kz := 2) (dk dt_X4_isLike 46 rfl) fl_X4_21 rfl rfl rfl k_1 ?_
                    refine jz_ifnull 148 (dk dt_X4_isLike 47 rfl) (by decide) H (fun H => ?_) (fun H => ?_)
                    · exact j_el (T_X4_isLike_148  hw   H) trivial
                    · refine j_aload_n (dk dt_X4_isLike 48 rfl) rfl ?_
                      refine jz_getO (kz := 2) (dk dt_X4_isLike 49 rfl) fl_X4_21 rfl rfl e_5 k_5 ?_
                      refine jz_ifnull 148 (dk dt_X4_isLike 50 rfl) (by decide) H (fun H => ?_) (fun H => ?_)
                      · exact j_el (T_X4_isLike_148  hw   H) trivial
                      · refine j_aload_n (dk dt_X4_isLike 51 rfl) rfl ?_
                        refine jz_getO (kz := 2) (dk dt_X4_isLike 52 rfl) fl_X4_21 rfl rfl rfl k_1 ?_
                        obtain ⟨a_117, e_117, k_117, H⟩ := H
                        refine jz_getI (kz := 1) (dk dt_X4_isLike 53 rfl) fl_X4_40 rfl rfl e_117 k_117 ?_
                        refine j_aload_n (dk dt_X4_isLike 54 rfl) rfl ?_
                        refine jz_getO (kz := 2) (dk dt_X4_isLike 55 rfl) fl_X4_21 rfl rfl e_5 k_5 ?_
                        obtain ⟨a_124, e_124, k_124, H⟩ := H
                        refine jz_getI (kz := 1) (dk dt_X4_isLike 56 rfl) fl_X4_40 rfl rfl e_124 k_124 ?_
                        refine jz_icmp_ne 148 (dk dt_X4_isLike 57 rfl) (by decide) (hw.1 _ _) (hw.1 _ _) H (fun H => ?_) (fun H => ?_)
                        · refine j_aload_n (dk dt_X4_isLike 58 rfl) rfl ?_
                          refine jz_getO (kz := 2) (dk dt_X4_isLike 59 rfl) fl_X4_21 rfl rfl rfl k_1 ?_
                          refine j_aload_n (dk dt_X4_isLike 60 rfl) rfl ?_
                          refine jz_getO (kz := 2) (dk dt_X4_isLike 61 rfl) fl_X4_21 rfl rfl e_5 k_5 ?_
                          refine jz_callV1 (dk dt_X4_isLike 62 rfl) vl_X4_45 e_117 (T_X8_compared hw H) k_117 rfl (by decide) (Nat.zero_le _) (Nat.zero_le _) (Nat.le_of_ble_eq_true rfl) (fun v_138 h_138 P_138 => ?_)
                          obtain ⟨x_138, rfl, r_138, rfl, H⟩ := P_138
                          dsimp only [rs]
                          refine jz_if_ne 148 (dk dt_X4_isLike 63 rfl) (by decide) r_138 H (fun H => ?_) (fun H => ?_)
                          · exact j_el (T_X4_isLike_144  hw   H) trivial
                          · exact j_el (T_X4_isLike_148  hw   H) trivial
                        · exact j_el (T_X4_isLike_148  hw   H) trivial
                · exact j_el (T_X4_isLike_148  hw   H) trivial
              · exact j_el (T_X4_isLike_148  hw   H) trivial
            · exact j_el (T_X4_isLike_148  hw   H) trivial
          · exact j_el (T_X4_isLike_148  hw   H) trivial
        · exact j_el (T_X4_isLike_148  hw   H) trivial
      · exact j_el (T_X4_isLike_148  hw   H) trivial
    · exact j_el (T_X4_isLike_148  hw   H) trivial
  · exact j_el (T_X4_isLike_148  hw   H) trivial
def F_X1_alike_23  (s0 : Int) (z : Z) (P : Int → Prop) : Prop :=
  (Z1 s0 ∧ P s0)
theorem T_X1_alike_23  {s0 : Int} {z : Z} {P : Int → Prop} (r_s0 : R32 s0) (hw : Wz z)   (H : F_X1_alike_23 s0 z P) : J mX1_alike 3 0 0 (nx (QPI (cz z) P)) 23 [none, none, none] [ii (s0)] (cz z) := by
  unfold F_X1_alike_23 at H
  obtain ⟨hz_, H⟩ := H
  exact j_ireturn (dk dt_X1_alike 13 rfl) rfl (nar_z hz_) ⟨_, rfl, r_s0, rfl, H⟩
def F_X1_alike_13  (x0 : Option Nat) (x1 : Option Nat) (z : Z) (P : Int → Prop) : Prop :=
  (if x0 = x1 then F_X1_alike_23 1 z P else F_X1_alike_23 0 z P)
theorem T_X1_alike_13  {x0 : Option Nat} {x1 : Option Nat} {z : Z} {P : Int → Prop}  (hw : Wz z)   (H : F_X1_alike_13 x0 x1 z P) : J mX1_alike 3 0 0 (nx (QPI (cz z) P)) 13 [some (vr (x0)), some (vr (x1)), none] [] (cz z) := by
  unfold F_X1_alike_13 at H
  refine j_aload_n (dk dt_X1_alike 7 rfl) rfl ?_
  refine j_aload_n (dk dt_X1_alike 8 rfl) rfl ?_
  refine jz_acmp_ne 22 (dk dt_X1_alike 9 rfl) (by decide) H (fun H => ?_) (fun H => ?_)
  · refine j_iconst (v := Int32.ofInt 1) (dk dt_X1_alike 10 rfl) (by decide) ?_
    refine j_goto 23 (dk dt_X1_alike 11 rfl) (by decide) ?_
    exact j_el (T_X1_alike_23 (by decide) hw   H) trivial
  · refine j_iconst (v := Int32.ofInt 0) (dk dt_X1_alike 12 rfl) (by decide) ?_
    exact j_el (T_X1_alike_23 (by decide) hw   H) trivial
def L_X1_alike_52  (x0 : Option Nat) (x1 : Option Nat) (x2 : Int) (z : Z) (P : Int ⊕ ((Unit) ⊕ (Unit)) → Prop) : Prop :=
  (∃ a_54, x0 = some a_54 ∧ zK z a_54 = 2 ∧ (∃ a_57, zO z a_54 2 = some a_57 ∧ zK z a_57 = 20 ∧ (if zN z a_57 ≤ x2 then P (.inr (.inl ())) else (0 ≤ x2 ∧ x2 < zN z a_57 ∧ (∃ a_68, x1 = some a_68 ∧ zK z a_68 = 2 ∧ (∃ a_72, zO z a_68 2 = some a_72 ∧ zK z a_72 = 20 ∧ (0 ≤ x2 ∧ x2 < zN z a_72 ∧ (∃ a_73, zO z a_57 x2 = some a_73 ∧ zK z a_73 = 5 ∧ F_X4_isLike a_73 (zO z a_72 x2) z (fun x_73 => (if x_73 = 0 then P (.inr (.inr ())) else P (.inl (w32 (x2 + 1)))))))))))))
theorem U_X1_alike_52  {x0 : Option Nat} {x1 : Option Nat} {x2 : Int} {z : Z} {P : Int ⊕ ((Unit) ⊕ (Unit)) → Prop} {post : Option Sv ⊕ String → Hp → Prop} (r_x2 : R32 x2) (hw : Wz z)  (hl : ∀ (x2 : Int), P (.inl x2) → R32 x2 → J mX1_alike 3 0 0 post 52 [some (vr (x0)), some (vr (x1)), some (ii (x2))] [] (cz z)) (he0 : P (.inr (.inl ())) → J mX1_alike 3 0 0 post 87 [some (vr (x0)), some (vr (x1)), none] [] (cz z)) (he1 : P (.inr (.inr ())) → J mX1_alike 3 0 0 post 79 [none, none, none] [] (cz z)) (H : L_X1_alike_52 x0 x1 x2 z P) : J mX1_alike 3 0 0 post 52 [some (vr (x0)), some (vr (x1)), some (ii (x2))] [] (cz z) := by
  unfold L_X1_alike_52 at H
  refine j_iload_n (dk dt_X1_alike 30 rfl) rfl ?_
  refine j_aload_n (dk dt_X1_alike 31 rfl) rfl ?_
  obtain ⟨a_54, e_54, k_54, H⟩ := H
  refine jz_getO (kz := 2) (dk dt_X1_alike 32 rfl) fl_X1_17 rfl rfl e_54 k_54 ?_
  obtain ⟨a_57, e_57, k_57, H⟩ := H
  refine jz_alen (t := 6) (dk dt_X1_alike 33 rfl) e_57 k_57 (by decide) hw ?_
  refine jz_icmp_ge 87 (dk dt_X1_alike 34 rfl) (by decide) r_x2 (r32_len hw _) H (fun H => ?_) (fun H => ?_)
  · exact j_el (he0  H ) (And.intro rfl (And.intro rfl trivial))
  · refine j_aload_n (dk dt_X1_alike 35 rfl) rfl ?_
    refine jz_getO (kz := 2) (dk dt_X1_alike 36 rfl) fl_X1_17 rfl rfl e_54 k_54 ?_
    refine j_iload_n (dk dt_X1_alike 37 rfl) rfl ?_
    obtain ⟨p_66, q_66, H⟩ := H
    refine jz_aald (t := 6) (dk dt_X1_alike 38 rfl) e_57 k_57 (by decide) (by decide) p_66 q_66 hw ?_
    refine j_aload_n (dk dt_X1_alike 39 rfl) rfl ?_
    obtain ⟨a_68, e_68, k_68, H⟩ := H
    refine jz_getO (kz := 2) (dk dt_X1_alike 40 rfl) fl_X1_17 rfl rfl e_68 k_68 ?_
    refine j_iload_n (dk dt_X1_alike 41 rfl) rfl ?_
    obtain ⟨a_72, e_72, k_72, H⟩ := H
    obtain ⟨p_72, q_72, H⟩ := H
    refine jz_aald (t := 6) (dk dt_X1_alike 42 rfl) e_72 k_72 (by decide) (by decide) p_72 q_72 hw ?_
    obtain ⟨a_73, e_73, k_73, H⟩ := H
    refine jz_callV1 (dk dt_X1_alike 43 rfl) vl_X1_21 e_73 (T_X4_isLike hw H) k_73 rfl (by decide) (Nat.zero_le _) (Nat.zero_le _) (Nat.le_of_ble_eq_true rfl) (fun v_73 h_73 P_73 => ?_)
    obtain ⟨x_73, rfl, r_73, rfl, H⟩ := P_73
    dsimp only [rs]
    refine jz_if_ne 81 (dk dt_X1_alike 44 rfl) (by decide) r_73 H (fun H => ?_) (fun H => ?_)
    · exact j_el (he1  H ) trivial
    · refine jz_iinc (dk dt_X1_alike 47 rfl) rfl ?_
      refine j_goto 52 (dk dt_X1_alike 48 rfl) (by decide) ?_
      exact j_el (hl _ H (r32_w _)) (And.intro rfl (And.intro rfl (And.intro rfl trivial)))
def F_X1_alike_120  (s0 : Int) (z : Z) (P : Int → Prop) : Prop :=
  (Z1 s0 ∧ P s0)
theorem T_X1_alike_120  {s0 : Int} {z : Z} {P : Int → Prop} (r_s0 : R32 s0) (hw : Wz z)   (H : F_X1_alike_120 s0 z P) : J mX1_alike 3 0 0 (nx (QPI (cz z) P)) 120 [none, none, none] [ii (s0)] (cz z) := by
  unfold F_X1_alike_120 at H
  obtain ⟨hz_, H⟩ := H
  exact j_ireturn (dk dt_X1_alike 64 rfl) rfl (nar_z hz_) ⟨_, rfl, r_s0, rfl, H⟩
def F_X1_alike_115  (z : Z) (P : Int → Prop) : Prop :=
  F_X1_alike_120 1 z P
theorem T_X1_alike_115  {z : Z} {P : Int → Prop}  (hw : Wz z)   (H : F_X1_alike_115 z P) : J mX1_alike 3 0 0 (nx (QPI (cz z) P)) 115 [none, none, none] [] (cz z) := by
  unfold F_X1_alike_115 at H
  refine j_iconst (v := Int32.ofInt 1) (dk dt_X1_alike 61 rfl) (by decide) ?_
  refine j_goto 120 (dk dt_X1_alike 62 rfl) (by decide) ?_
  exact j_el (T_X1_alike_120 (by decide) hw   H) trivial
def F_X1_alike_52  (x0 : Option Nat) (x1 : Option Nat) (x2 : Int) (z : Z) (P : Int → Prop) : Prop :=
  lp (S := Int) (E := (Unit) ⊕ (Unit)) (fun q P_ => L_X1_alike_52 x0 x1 q z P_) x2 (fun e => match e with | (.inl _) => (∃ a_88, x0 = some a_88 ∧ zK z a_88 = 2 ∧ (if zO z a_88 1 = none then F_X1_alike_115 z P else (∃ a_95, x1 = some a_95 ∧ zK z a_95 = 2 ∧ (if zO z a_95 1 = none then F_X1_alike_115 z P else (∃ a_109, zO z a_88 1 = some a_109 ∧ zK z a_109 = 9 ∧ F_X8_compared a_109 (zO z a_95 1) z (fun x_109 => (if x_109 = 0 then F_X1_alike_115 z P else F_X1_alike_120 0 z P))))))) | (.inr _) => P 0)
theorem T_X1_alike_52  {x0 : Option Nat} {x1 : Option Nat} {x2 : Int} {z : Z} {P : Int → Prop} (r_x2 : R32 x2) (hw : Wz z)   (H : F_X1_alike_52 x0 x1 x2 z P) : J mX1_alike 3 0 0 (nx (QPI (cz z) P)) 52 [some (vr (x0)), some (vr (x1)), some (ii (x2))] [] (cz z) := by
  unfold F_X1_alike_52 at H
  refine lp_J (G := fun q => R32 (q) → J mX1_alike 3 0 0 (nx (QPI (cz z) P)) 52 [some (vr (x0)), some (vr (x1)), some (ii ((q)))] [] (cz z)) (fun x2 P_ hl_ he_ Hb => ?_) x2 H r_x2
  intro r_x2
  refine U_X1_alike_52 (P := P_) r_x2 hw  (fun x2 Hp r_x2 => hl_ x2 Hp r_x2) ?_ ?_ Hb
  · intro Hp
    have H := he_ _ Hp
    refine j_aload_n (dk dt_X1_alike 49 rfl) rfl ?_
    obtain ⟨a_88, e_88, k_88, H⟩ := H
    refine jz_getO (kz := 1) (dk dt_X1_alike 50 rfl) fl_X1_13 rfl rfl e_88 k_88 ?_
    refine jz_ifnull 115 (dk dt_X1_alike 51 rfl) (by decide) H (fun H => ?_) (fun H => ?_)
    · exact j_el (T_X1_alike_115  hw   H) trivial
    · refine j_aload_n (dk dt_X1_alike 52 rfl) rfl ?_
      obtain ⟨a_95, e_95, k_95, H⟩ := H
      refine jz_getO (kz := 1) (dk dt_X1_alike 53 rfl) fl_X1_13 rfl rfl e_95 k_95 ?_
      refine jz_ifnull 115 (dk dt_X1_alike 54 rfl) (by decide) H (fun H => ?_) (fun H => ?_)
      · exact j_el (T_X1_alike_115  hw   H) trivial
      · refine j_aload_n (dk dt_X1_alike 55 rfl) rfl ?_
        refine jz_getO (kz := 1) (dk dt_X1_alike 56 rfl) fl_X1_13 rfl rfl e_88 k_88 ?_
        refine j_aload_n (dk dt_X1_alike 57 rfl) rfl ?_
        refine jz_getO (kz := 1) (dk dt_X1_alike 58 rfl) fl_X1_13 rfl rfl e_95 k_95 ?_
        obtain ⟨a_109, e_109, k_109, H⟩ := H
        refine jz_callV1 (dk dt_X1_alike 59 rfl) vl_X1_27 e_109 (T_X8_compared hw H) k_109 rfl (by decide) (Nat.zero_le _) (Nat.zero_le _) (Nat.le_of_ble_eq_true rfl) (fun v_109 h_109 P_109 => ?_)
        obtain ⟨x_109, rfl, r_109, rfl, H⟩ := P_109
        dsimp only [rs]
        refine jz_if_ne 119 (dk dt_X1_alike 60 rfl) (by decide) r_109 H (fun H => ?_) (fun H => ?_)
        · exact j_el (T_X1_alike_115  hw   H) trivial
        · refine j_iconst (v := Int32.ofInt 0) (dk dt_X1_alike 63 rfl) (by decide) ?_
          exact j_el (T_X1_alike_120 (by decide) hw   H) trivial
  · intro Hp
    have H := he_ _ Hp
    refine j_iconst (v := Int32.ofInt 0) (dk dt_X1_alike 45 rfl) (by decide) ?_
    exact j_ireturn (dk dt_X1_alike 46 rfl) rfl (nar_z (by decide)) ⟨_, rfl, (by decide), rfl, H⟩
def F_X1_alike_48  (z : Z) (P : Int → Prop) : Prop :=
  P 0
theorem T_X1_alike_48  {z : Z} {P : Int → Prop}  (hw : Wz z)   (H : F_X1_alike_48 z P) : J mX1_alike 3 0 0 (nx (QPI (cz z) P)) 48 [none, none, none] [] (cz z) := by
  unfold F_X1_alike_48 at H
  refine j_iconst (v := Int32.ofInt 0) (dk dt_X1_alike 26 rfl) (by decide) ?_
  exact j_ireturn (dk dt_X1_alike 27 rfl) rfl (nar_z (by decide)) ⟨_, rfl, (by decide), rfl, H⟩
def F_X1_alike  (x0 : Option Nat) (x1 : Option Nat) (z : Z) (P : Int → Prop) : Prop :=
  (if x0 = none then F_X1_alike_13 x0 x1 z P else (if x1 = none then F_X1_alike_13 x0 x1 z P else (if x0 = x1 then F_X1_alike_13 x0 x1 z P else (∃ a_25, x0 = some a_25 ∧ zK z a_25 = 2 ∧ (∃ a_29, x1 = some a_29 ∧ zK z a_29 = 2 ∧ (if zI z a_25 0 = zI z a_29 0 then (∃ a_39, zO z a_25 2 = some a_39 ∧ zK z a_39 = 20 ∧ (∃ a_44, zO z a_29 2 = some a_44 ∧ zK z a_44 = 20 ∧ (if zN z a_39 = zN z a_44 then F_X1_alike_52 x0 x1 0 z P else F_X1_alike_48 z P))) else F_X1_alike_48 z P))))))
theorem T_X1_alike  {x0 : Option Nat} {x1 : Option Nat} {z : Z} {P : Int → Prop}  (hw : Wz z)  (H : F_X1_alike x0 x1 z P) : Con mX1_alike 3 0 0 [vr (x0), vr (x1)] (cz z) (QPI (cz z) P) := by
  refine con_of rfl (Nat.le_of_ble_eq_true rfl) (by decide) ?_
  show J mX1_alike 3 0 0 _ 0 [some (vr (x0)), some (vr (x1)), none] [] (cz z)
  unfold F_X1_alike at H
  refine j_aload_n (dk dt_X1_alike 0 rfl) rfl ?_
  refine jz_ifnull 13 (dk dt_X1_alike 1 rfl) (by decide) H (fun H => ?_) (fun H => ?_)
  · exact j_el (T_X1_alike_13  hw   H) (And.intro rfl (And.intro rfl trivial))
  · refine j_aload_n (dk dt_X1_alike 2 rfl) rfl ?_
    refine jz_ifnull 13 (dk dt_X1_alike 3 rfl) (by decide) H (fun H => ?_) (fun H => ?_)
    · exact j_el (T_X1_alike_13  hw   H) (And.intro rfl (And.intro rfl trivial))
    · refine j_aload_n (dk dt_X1_alike 4 rfl) rfl ?_
      refine j_aload_n (dk dt_X1_alike 5 rfl) rfl ?_
      refine jz_acmp_ne 24 (dk dt_X1_alike 6 rfl) (by decide) H (fun H => ?_) (fun H => ?_)
      · exact j_el (T_X1_alike_13  hw   H) (And.intro rfl (And.intro rfl trivial))
      · refine j_aload_n (dk dt_X1_alike 14 rfl) rfl ?_
        obtain ⟨a_25, e_25, k_25, H⟩ := H
        refine jz_getI (kz := 0) (dk dt_X1_alike 15 rfl) fl_X1_7 rfl rfl e_25 k_25 ?_
        refine j_aload_n (dk dt_X1_alike 16 rfl) rfl ?_
        obtain ⟨a_29, e_29, k_29, H⟩ := H
        refine jz_getI (kz := 0) (dk dt_X1_alike 17 rfl) fl_X1_7 rfl rfl e_29 k_29 ?_
        refine jz_icmp_ne 48 (dk dt_X1_alike 18 rfl) (by decide) (hw.1 _ _) (hw.1 _ _) H (fun H => ?_) (fun H => ?_)
        · refine j_aload_n (dk dt_X1_alike 19 rfl) rfl ?_
          refine jz_getO (kz := 2) (dk dt_X1_alike 20 rfl) fl_X1_17 rfl rfl e_25 k_25 ?_
          obtain ⟨a_39, e_39, k_39, H⟩ := H
          refine jz_alen (t := 6) (dk dt_X1_alike 21 rfl) e_39 k_39 (by decide) hw ?_
          refine j_aload_n (dk dt_X1_alike 22 rfl) rfl ?_
          refine jz_getO (kz := 2) (dk dt_X1_alike 23 rfl) fl_X1_17 rfl rfl e_29 k_29 ?_
          obtain ⟨a_44, e_44, k_44, H⟩ := H
          refine jz_alen (t := 6) (dk dt_X1_alike 24 rfl) e_44 k_44 (by decide) hw ?_
          refine jz_icmp_eq 50 (dk dt_X1_alike 25 rfl) (by decide) (r32_len hw _) (r32_len hw _) H (fun H => ?_) (fun H => ?_)
          · refine j_iconst (v := Int32.ofInt 0) (dk dt_X1_alike 28 rfl) (by decide) ?_
            refine j_istore_n (dk dt_X1_alike 29 rfl) (by decide) ?_
            exact j_el (T_X1_alike_52 (by decide) hw   H) (And.intro rfl (And.intro rfl (And.intro rfl trivial)))
          · exact j_el (T_X1_alike_48  hw   H) trivial
        · exact j_el (T_X1_alike_48  hw   H) trivial
def F_X6_has_33  (s0 : Int) (z : Z) (P : Int → Prop) : Prop :=
  (Z1 s0 ∧ P s0)
theorem T_X6_has_33  {s0 : Int} {z : Z} {P : Int → Prop} (r_s0 : R32 s0) (hw : Wz z)   (H : F_X6_has_33 s0 z P) : J mX6_has 1 0 0 (nx (QPI (cz z) P)) 33 [none, none, none] [ii (s0)] (cz z) := by
  unfold F_X6_has_33 at H
  obtain ⟨hz_, H⟩ := H
  exact j_ireturn (dk dt_X6_has 19 rfl) rfl (nar_z hz_) ⟨_, rfl, r_s0, rfl, H⟩
def F_X6_has_32  (z : Z) (P : Int → Prop) : Prop :=
  F_X6_has_33 0 z P
theorem T_X6_has_32  {z : Z} {P : Int → Prop}  (hw : Wz z)   (H : F_X6_has_32 z P) : J mX6_has 1 0 0 (nx (QPI (cz z) P)) 32 [none, none, none] [] (cz z) := by
  unfold F_X6_has_32 at H
  refine j_iconst (v := Int32.ofInt 0) (dk dt_X6_has 18 rfl) (by decide) ?_
  exact j_el (T_X6_has_33 (by decide) hw   H) trivial
def F_X6_has  (t0 : Nat) (x1 : Int) (x2 : Int) (z : Z) (P : Int → Prop) : Prop :=
  (if x1 < 1 then F_X6_has_32 z P else (zK z t0 = 7 ∧ (∃ a_10, zO z t0 0 = some a_10 ∧ zK z a_10 = 15 ∧ (if zN z a_10 < x1 then F_X6_has_32 z P else (if x2 < 1 then F_X6_has_32 z P else (∃ a_24, zO z t0 1 = some a_24 ∧ zK z a_24 = 15 ∧ (if zN z a_24 < x2 then F_X6_has_32 z P else F_X6_has_33 1 z P)))))))
theorem T_X6_has  {t0 : Nat} {x1 : Int} {x2 : Int} {z : Z} {P : Int → Prop} (r_x1 : R32 x1) (r_x2 : R32 x2) (hw : Wz z)  (H : F_X6_has t0 x1 x2 z P) : Con mX6_has 1 0 0 [vr (some t0), ii (x1), ii (x2)] (cz z) (QPI (cz z) P) := by
  refine con_of rfl (Nat.le_of_ble_eq_true rfl) (by decide) ?_
  show J mX6_has 1 0 0 _ 0 [some (vr (some t0)), some (ii (x1)), some (ii (x2))] [] (cz z)
  unfold F_X6_has at H
  refine j_iload_n (dk dt_X6_has 0 rfl) rfl ?_
  refine j_iconst (v := Int32.ofInt 1) (dk dt_X6_has 1 rfl) (by decide) ?_
  refine jz_icmp_lt 32 (dk dt_X6_has 2 rfl) (by decide) r_x1 (by decide) H (fun H => ?_) (fun H => ?_)
  · exact j_el (T_X6_has_32  hw   H) trivial
  · refine j_iload_n (dk dt_X6_has 3 rfl) rfl ?_
    refine j_aload_n (dk dt_X6_has 4 rfl) rfl ?_
    obtain ⟨k_7, H⟩ := H
    refine jz_getO (kz := 0) (dk dt_X6_has 5 rfl) fl_X6_9 rfl rfl rfl k_7 ?_
    obtain ⟨a_10, e_10, k_10, H⟩ := H
    refine jz_alen (t := 1) (dk dt_X6_has 6 rfl) e_10 k_10 (by decide) hw ?_
    refine jz_icmp_gt 32 (dk dt_X6_has 7 rfl) (by decide) r_x1 (r32_len hw _) H (fun H => ?_) (fun H => ?_)
    · exact j_el (T_X6_has_32  hw   H) trivial
    · refine j_iload_n (dk dt_X6_has 8 rfl) rfl ?_
      refine j_iconst (v := Int32.ofInt 1) (dk dt_X6_has 9 rfl) (by decide) ?_
      refine jz_icmp_lt 32 (dk dt_X6_has 10 rfl) (by decide) r_x2 (by decide) H (fun H => ?_) (fun H => ?_)
      · exact j_el (T_X6_has_32  hw   H) trivial
      · refine j_iload_n (dk dt_X6_has 11 rfl) rfl ?_
        refine j_aload_n (dk dt_X6_has 12 rfl) rfl ?_
        refine jz_getO (kz := 1) (dk dt_X6_has 13 rfl) fl_X6_15 rfl rfl rfl k_7 ?_
        obtain ⟨a_24, e_24, k_24, H⟩ := H
        refine jz_alen (t := 1) (dk dt_X6_has 14 rfl) e_24 k_24 (by decide) hw ?_
        refine jz_icmp_gt 32 (dk dt_X6_has 15 rfl) (by decide) r_x2 (r32_len hw _) H (fun H => ?_) (fun H => ?_)
        · exact j_el (T_X6_has_32  hw   H) trivial
        · refine j_iconst (v := Int32.ofInt 1) (dk dt_X6_has 16 rfl) (by decide) ?_
          refine j_goto 33 (dk dt_X6_has 17 rfl) (by decide) ?_
          exact j_el (T_X6_has_33 (by decide) hw   H) trivial
def F_X6_at_31  (s0 : Option Nat) (z : Z) (P : Option Nat → Prop) : Prop :=
  P s0
theorem T_X6_at_31  {s0 : Option Nat} {z : Z} {P : Option Nat → Prop}  (hw : Wz z)   (H : F_X6_at_31 s0 z P) : J mX6_at 2 0 0 (nx (QPA (cz z) P)) 31 [none, none, none] [vr (s0)] (cz z) := by
  unfold F_X6_at_31 at H
  exact j_areturn (dk dt_X6_at 21 rfl) rfl rfl ⟨_, rfl, rfl, H⟩
def F_X6_at  (t0 : Nat) (x1 : Int) (x2 : Int) (z : Z) (P : Option Nat → Prop) : Prop :=
  (zK z t0 = 7 ∧ F_X6_has t0 x1 x2 z (fun x_3 => (if x_3 = 0 then F_X6_at_31 none z P else (∃ a_20, zO z t0 1 = some a_20 ∧ zK z a_20 = 15 ∧ (∃ a_26, zO z t0 2 = some a_26 ∧ zK z a_26 = 19 ∧ (0 ≤ w32 ((w32 (w32 ((w32 (x1 - 1)) * (zN z a_20)) + x2)) - 1) ∧ w32 ((w32 (w32 ((w32 (x1 - 1)) * (zN z a_20)) + x2)) - 1) < zN z a_26 ∧ F_X6_at_31 (zO z a_26 (w32 ((w32 (w32 ((w32 (x1 - 1)) * (zN z a_20)) + x2)) - 1))) z P))))))
theorem T_X6_at  {t0 : Nat} {x1 : Int} {x2 : Int} {z : Z} {P : Option Nat → Prop} (r_x1 : R32 x1) (r_x2 : R32 x2) (hw : Wz z)  (H : F_X6_at t0 x1 x2 z P) : Con mX6_at 2 0 0 [vr (some t0), ii (x1), ii (x2)] (cz z) (QPA (cz z) P) := by
  refine con_of rfl (Nat.le_of_ble_eq_true rfl) (by decide) ?_
  show J mX6_at 2 0 0 _ 0 [some (vr (some t0)), some (ii (x1)), some (ii (x2))] [] (cz z)
  unfold F_X6_at at H
  refine j_aload_n (dk dt_X6_at 0 rfl) rfl ?_
  refine j_iload_n (dk dt_X6_at 1 rfl) rfl ?_
  refine j_iload_n (dk dt_X6_at 2 rfl) rfl ?_
  obtain ⟨k_3, H⟩ := H
  refine jz_callV2 (dk dt_X6_at 3 rfl) vl_X6_24 rfl (T_X6_has r_x1 r_x2 hw H) k_3 rfl (by decide) (Nat.zero_le _) (Nat.zero_le _) (Nat.le_of_ble_eq_true rfl) (fun v_3 h_3 P_3 => ?_)
  obtain ⟨x_3, rfl, r_3, rfl, H⟩ := P_3
  dsimp only [rs]
  refine jz_if_eq 30 (dk dt_X6_at 4 rfl) (by decide) r_3 H (fun H => ?_) (fun H => ?_)
  · refine j_null (dk dt_X6_at 20 rfl) ?_
    exact j_el (T_X6_at_31  hw   H) trivial
  · refine j_aload_n (dk dt_X6_at 5 rfl) rfl ?_
    refine jz_getO (kz := 2) (dk dt_X6_at 6 rfl) fl_X6_20 rfl rfl rfl k_3 ?_
    refine j_iload_n (dk dt_X6_at 7 rfl) rfl ?_
    refine j_iconst (v := Int32.ofInt 1) (dk dt_X6_at 8 rfl) (by decide) ?_
    refine jz_isub (dk dt_X6_at 9 rfl) ?_
    refine j_aload_n (dk dt_X6_at 10 rfl) rfl ?_
    refine jz_getO (kz := 1) (dk dt_X6_at 11 rfl) fl_X6_15 rfl rfl rfl k_3 ?_
    obtain ⟨a_20, e_20, k_20, H⟩ := H
    refine jz_alen (t := 1) (dk dt_X6_at 12 rfl) e_20 k_20 (by decide) hw ?_
    refine jz_imul (dk dt_X6_at 13 rfl) ?_
    refine j_iload_n (dk dt_X6_at 14 rfl) rfl ?_
    refine jz_iadd (dk dt_X6_at 15 rfl) ?_
    refine j_iconst (v := Int32.ofInt 1) (dk dt_X6_at 16 rfl) (by decide) ?_
    refine jz_isub (dk dt_X6_at 17 rfl) ?_
    obtain ⟨a_26, e_26, k_26, H⟩ := H
    obtain ⟨p_26, q_26, H⟩ := H
    refine jz_aald (t := 5) (dk dt_X6_at 18 rfl) e_26 k_26 (by decide) (by decide) p_26 q_26 hw ?_
    refine j_goto 31 (dk dt_X6_at 19 rfl) (by decide) ?_
    exact j_el (T_X6_at_31  hw   H) trivial
def F_X6_of  (t0 : Nat) (x1 : Int) (x2 : Int) (z : Z) (P : Option Nat → Prop) : Prop :=
  (zK z t0 = 7 ∧ F_X6_placeOf t0 0 x1 z (fun x_4 => F_X6_placeOf t0 1 x2 z (fun x_10 => F_X6_at t0 x_4 x_10 z (fun x_13 => P x_13))))
theorem T_X6_of  {t0 : Nat} {x1 : Int} {x2 : Int} {z : Z} {P : Option Nat → Prop} (r_x1 : R32 x1) (r_x2 : R32 x2) (hw : Wz z)  (H : F_X6_of t0 x1 x2 z P) : Con mX6_of 3 0 0 [vr (some t0), ii (x1), ii (x2)] (cz z) (QPA (cz z) P) := by
  refine con_of rfl (Nat.le_of_ble_eq_true rfl) (by decide) ?_
  show J mX6_of 3 0 0 _ 0 [some (vr (some t0)), some (ii (x1)), some (ii (x2))] [] (cz z)
  unfold F_X6_of at H
  refine j_aload_n (dk dt_X6_of 0 rfl) rfl ?_
  refine j_aload_n (dk dt_X6_of 1 rfl) rfl ?_
  refine j_iconst (v := Int32.ofInt 0) (dk dt_X6_of 2 rfl) (by decide) ?_
  refine j_iload_n (dk dt_X6_of 3 rfl) rfl ?_
  obtain ⟨k_4, H⟩ := H
  refine jz_callV2 (dk dt_X6_of 4 rfl) vl_X6_28 rfl (T_X6_placeOf (by decide) r_x1 hw H) k_4 rfl (by decide) (Nat.zero_le _) (Nat.zero_le _) (Nat.le_of_ble_eq_true rfl) (fun v_4 h_4 P_4 => ?_)
  obtain ⟨x_4, rfl, r_4, rfl, H⟩ := P_4
  dsimp only [rs]
  refine j_aload_n (dk dt_X6_of 5 rfl) rfl ?_
  refine j_iconst (v := Int32.ofInt 1) (dk dt_X6_of 6 rfl) (by decide) ?_
  refine j_iload_n (dk dt_X6_of 7 rfl) rfl ?_
  refine jz_callV2 (dk dt_X6_of 8 rfl) vl_X6_28 rfl (T_X6_placeOf (by decide) r_x2 hw H) k_4 rfl (by decide) (Nat.zero_le _) (Nat.zero_le _) (Nat.le_of_ble_eq_true rfl) (fun v_10 h_10 P_10 => ?_)
  obtain ⟨x_10, rfl, r_10, rfl, H⟩ := P_10
  dsimp only [rs]
  refine jz_callV2 (dk dt_X6_of 9 rfl) vl_X6_32 rfl (T_X6_at r_4 r_10 hw H) k_4 rfl (by decide) (Nat.zero_le _) (Nat.zero_le _) (Nat.le_of_ble_eq_true rfl) (fun v_13 h_13 P_13 => ?_)
  obtain ⟨x_13, rfl, rfl, H⟩ := P_13
  dsimp only [rs]
  exact j_areturn (dk dt_X6_of 10 rfl) rfl rfl ⟨_, rfl, rfl, H⟩
def F_X2_holds_42  (s0 : Int) (z : Z) (P : Int → Prop) : Prop :=
  (Z1 s0 ∧ P s0)
theorem T_X2_holds_42  {s0 : Int} {z : Z} {P : Int → Prop} (r_s0 : R32 s0) (hw : Wz z)   (H : F_X2_holds_42 s0 z P) : J mX2_holds 4 0 0 (nx (QPI (cz z) P)) 42 [none, none, none, none, none, none] [ii (s0)] (cz z) := by
  unfold F_X2_holds_42 at H
  obtain ⟨hz_, H⟩ := H
  exact j_ireturn (dk dt_X2_holds 21 rfl) rfl (nar_z hz_) ⟨_, rfl, r_s0, rfl, H⟩
def F_X2_holds_41  (z : Z) (P : Int → Prop) : Prop :=
  F_X2_holds_42 0 z P
theorem T_X2_holds_41  {z : Z} {P : Int → Prop}  (hw : Wz z)   (H : F_X2_holds_41 z P) : J mX2_holds 4 0 0 (nx (QPI (cz z) P)) 41 [none, none, none, none, none, none] [] (cz z) := by
  unfold F_X2_holds_41 at H
  refine j_iconst (v := Int32.ofInt 0) (dk dt_X2_holds 20 rfl) (by decide) ?_
  exact j_el (T_X2_holds_42 (by decide) hw   H) trivial
def F_X2_holds  (t0 : Nat) (x1 : Int) (x2 : Int) (x3 : Int) (x4 : Option Nat) (z : Z) (P : Int → Prop) : Prop :=
  (zK z t0 = 3 ∧ F_X2_at t0 x1 z (fun x_2 => (if x_2 = none then F_X2_holds_41 z P else (∃ a_16, x_2 = some a_16 ∧ zK z a_16 = 7 ∧ F_X6_knows a_16 x2 x3 z (fun x_16 => (if x_16 = 0 then F_X2_holds_41 z P else F_X6_of a_16 x2 x3 z (fun x_26 => F_X1_alike x_26 x4 z (fun x_31 => (if x_31 = 0 then F_X2_holds_41 z P else F_X2_holds_42 1 z P)))))))))
theorem T_X2_holds  {t0 : Nat} {x1 : Int} {x2 : Int} {x3 : Int} {x4 : Option Nat} {z : Z} {P : Int → Prop} (r_x1 : R32 x1) (r_x2 : R32 x2) (r_x3 : R32 x3) (hw : Wz z)  (H : F_X2_holds t0 x1 x2 x3 x4 z P) : Con mX2_holds 4 0 0 [vr (some t0), ii (x1), ii (x2), ii (x3), vr (x4)] (cz z) (QPI (cz z) P) := by
  refine con_of rfl (Nat.le_of_ble_eq_true rfl) (by decide) ?_
  show J mX2_holds 4 0 0 _ 0 [some (vr (some t0)), some (ii (x1)), some (ii (x2)), some (ii (x3)), some (vr (x4)), none] [] (cz z)
  unfold F_X2_holds at H
  refine j_aload_n (dk dt_X2_holds 0 rfl) rfl ?_
  refine j_iload_n (dk dt_X2_holds 1 rfl) rfl ?_
  obtain ⟨k_2, H⟩ := H
  refine jz_callV1 (dk dt_X2_holds 2 rfl) vl_X2_42 rfl (T_X2_at r_x1 hw H) k_2 rfl (by decide) (Nat.zero_le _) (Nat.zero_le _) (Nat.le_of_ble_eq_true rfl) (fun v_2 h_2 P_2 => ?_)
  obtain ⟨x_2, rfl, rfl, H⟩ := P_2
  dsimp only [rs]
  refine j_astore (dk dt_X2_holds 3 rfl) (by decide) ?_
  refine j_aload (dk dt_X2_holds 4 rfl) rfl ?_
  refine jz_ifnull 41 (dk dt_X2_holds 5 rfl) (by decide) H (fun H => ?_) (fun H => ?_)
  · exact j_el (T_X2_holds_41  hw   H) trivial
  · refine j_aload (dk dt_X2_holds 6 rfl) rfl ?_
    refine j_iload_n (dk dt_X2_holds 7 rfl) rfl ?_
    refine j_iload_n (dk dt_X2_holds 8 rfl) rfl ?_
    obtain ⟨a_16, e_16, k_16, H⟩ := H
    refine jz_callV2 (dk dt_X2_holds 9 rfl) vl_X2_46 e_16 (T_X6_knows r_x2 r_x3 hw H) k_16 rfl (by decide) (Nat.zero_le _) (Nat.zero_le _) (Nat.le_of_ble_eq_true rfl) (fun v_16 h_16 P_16 => ?_)
    obtain ⟨x_16, rfl, r_16, rfl, H⟩ := P_16
    dsimp only [rs]
    refine jz_if_eq 41 (dk dt_X2_holds 10 rfl) (by decide) r_16 H (fun H => ?_) (fun H => ?_)
    · exact j_el (T_X2_holds_41  hw   H) trivial
    · refine j_aload (dk dt_X2_holds 11 rfl) rfl ?_
      refine j_iload_n (dk dt_X2_holds 12 rfl) rfl ?_
      refine j_iload_n (dk dt_X2_holds 13 rfl) rfl ?_
      refine jz_callV2 (dk dt_X2_holds 14 rfl) vl_X2_50 e_16 (T_X6_of r_x2 r_x3 hw H) k_16 rfl (by decide) (Nat.zero_le _) (Nat.zero_le _) (Nat.le_of_ble_eq_true rfl) (fun v_26 h_26 P_26 => ?_)
      obtain ⟨x_26, rfl, rfl, H⟩ := P_26
      dsimp only [rs]
      refine j_aload (dk dt_X2_holds 15 rfl) rfl ?_
      refine j_callS2 (dk dt_X2_holds 16 rfl) sl_X2_54 (T_X1_alike hw H) rfl (by decide) (Nat.zero_le _) (Nat.zero_le _) (Nat.le_of_ble_eq_true rfl) (fun v_31 h_31 P_31 => ?_)
      obtain ⟨x_31, rfl, r_31, rfl, H⟩ := P_31
      dsimp only [rs]
      refine jz_if_eq 41 (dk dt_X2_holds 17 rfl) (by decide) r_31 H (fun H => ?_) (fun H => ?_)
      · exact j_el (T_X2_holds_41  hw   H) trivial
      · refine j_iconst (v := Int32.ofInt 1) (dk dt_X2_holds 18 rfl) (by decide) ?_
        refine j_goto 42 (dk dt_X2_holds 19 rfl) (by decide) ?_
        exact j_el (T_X2_holds_42 (by decide) hw   H) trivial
def F_X11_blame_176  (t0 : Nat) (x3 : Int) (x4 : Int) (x5 : Option Nat) (x6 : Int) (x7 : Int) (z : Z) (c : Nat) (s : Nat) (P : (Int × Int) ⊕ ((Int) ⊕ (Int)) → Prop) : Prop :=
  P (.inl (x6, w32 (x7 + 1)))
theorem T_X11_blame_176  {t0 : Nat} {x3 : Int} {x4 : Int} {x5 : Option Nat} {x6 : Int} {x7 : Int} {z : Z} {c : Nat} {s : Nat} {P : (Int × Int) ⊕ ((Int) ⊕ (Int)) → Prop} {post : Option Sv ⊕ String → Hp → Prop} (r_x3 : R32 x3) (r_x4 : R32 x4) (r_x6 : R32 x6) (r_x7 : R32 x7) (hw : Wz z)  (hl : ∀ (x6 : Int) (x7 : Int), P (.inl (x6, x7)) → R32 x6 → R32 x7 → J mX11_blame 6 c s post 86 [some (vr (some t0)), none, none, some (ii (x3)), some (ii (x4)), some (vr (x5)), some (ii (x6)), some (ii (x7))] [] (cz z)) (he0 : ∀ (x6 : Int), P (.inr (.inl x6)) → R32 x6 → J mX11_blame 6 c s post 182 [none, none, none, none, none, none, some (ii (x6)), none] [] (cz z)) (he1 : ∀ (x6 : Int), P (.inr (.inr x6)) → R32 x6 → J mX11_blame 6 c s post 173 [none, none, none, none, none, none, some (ii (x6)), none] [] (cz z)) (H : F_X11_blame_176 t0 x3 x4 x5 x6 x7 z c s P) : J mX11_blame 6 c s (post) 176 [some (vr (some t0)), none, none, some (ii (x3)), some (ii (x4)), some (vr (x5)), some (ii (x6)), some (ii (x7))] [] (cz z) := by
  unfold F_X11_blame_176 at H
  refine jz_iinc (dk dt_X11_blame 91 rfl) rfl ?_
  refine j_goto 86 (dk dt_X11_blame 92 rfl) (by decide) ?_
  exact j_el (hl _ _ H r_x6 (r32_w _)) (And.intro rfl (And.intro rfl (And.intro rfl (And.intro rfl (And.intro rfl (And.intro rfl trivial))))))
def L_X11_blame_86  (t0 : Nat) (x3 : Int) (x4 : Int) (x5 : Option Nat) (x6 : Int) (x7 : Int) (z : Z) (c : Nat) (s : Nat) (P : (Int × Int) ⊕ ((Int) ⊕ (Int)) → Prop) : Prop :=
  (if 40 ≤ x7 then P (.inr (.inl x6)) else (zK z t0 = 12 ∧ (∃ a_101, zO z t0 2 = some a_101 ∧ zK z a_101 = 3 ∧ (∃ a_106, zO z a_101 1 = some a_106 ∧ zK z a_106 = 15 ∧ (0 ≤ x6 ∧ x6 < zN z a_106 ∧ F_X2_holds a_101 (zI z a_106 x6) x3 x4 x5 z (fun x_112 => (if x_112 = 0 then (∃ a_146, zO z a_101 2 = some a_146 ∧ zK z a_146 = 15 ∧ (0 ≤ x6 ∧ x6 < zN z a_146 ∧ F_X2_holds a_101 (zI z a_146 x6) x3 x4 x5 z (fun x_152 => (if x_152 = 0 then P (.inr (.inr x6)) else F_X11_blame_176 t0 x3 x4 x5 (zI z a_146 x6) x7 z c s P)))) else F_X11_blame_176 t0 x3 x4 x5 (zI z a_106 x6) x7 z c s P)))))))
theorem U_X11_blame_86  {t0 : Nat} {x3 : Int} {x4 : Int} {x5 : Option Nat} {x6 : Int} {x7 : Int} {z : Z} {c : Nat} {s : Nat} {P : (Int × Int) ⊕ ((Int) ⊕ (Int)) → Prop} {post : Option Sv ⊕ String → Hp → Prop} (r_x3 : R32 x3) (r_x4 : R32 x4) (r_x6 : R32 x6) (r_x7 : R32 x7) (hw : Wz z)  (hl : ∀ (x6 : Int) (x7 : Int), P (.inl (x6, x7)) → R32 x6 → R32 x7 → J mX11_blame 6 c s post 86 [some (vr (some t0)), none, none, some (ii (x3)), some (ii (x4)), some (vr (x5)), some (ii (x6)), some (ii (x7))] [] (cz z)) (he0 : ∀ (x6 : Int), P (.inr (.inl x6)) → R32 x6 → J mX11_blame 6 c s post 182 [none, none, none, none, none, none, some (ii (x6)), none] [] (cz z)) (he1 : ∀ (x6 : Int), P (.inr (.inr x6)) → R32 x6 → J mX11_blame 6 c s post 173 [none, none, none, none, none, none, some (ii (x6)), none] [] (cz z)) (H : L_X11_blame_86 t0 x3 x4 x5 x6 x7 z c s P) : J mX11_blame 6 c s post 86 [some (vr (some t0)), none, none, some (ii (x3)), some (ii (x4)), some (vr (x5)), some (ii (x6)), some (ii (x7))] [] (cz z) := by
  unfold L_X11_blame_86 at H
  refine j_iload (dk dt_X11_blame 48 rfl) rfl ?_
  refine j_bipush (v := Int32.ofInt 40) (dk dt_X11_blame 49 rfl) (by decide) ?_
  refine jz_icmp_ge 182 (dk dt_X11_blame 50 rfl) (by decide) r_x7 (by decide) H (fun H => ?_) (fun H => ?_)
  · exact j_el (he0 _ H r_x6) (And.intro rfl trivial)
  · refine j_aload_n (dk dt_X11_blame 51 rfl) rfl ?_
    obtain ⟨k_94, H⟩ := H
    refine jz_getO (kz := 2) (dk dt_X11_blame 52 rfl) fl_X11_26 rfl rfl rfl k_94 ?_
    refine j_aload_n (dk dt_X11_blame 53 rfl) rfl ?_
    refine jz_getO (kz := 2) (dk dt_X11_blame 54 rfl) fl_X11_26 rfl rfl rfl k_94 ?_
    obtain ⟨a_101, e_101, k_101, H⟩ := H
    refine jz_getO (kz := 1) (dk dt_X11_blame 55 rfl) fl_X11_285 rfl rfl e_101 k_101 ?_
    refine j_iload (dk dt_X11_blame 56 rfl) rfl ?_
    obtain ⟨a_106, e_106, k_106, H⟩ := H
    obtain ⟨p_106, q_106, H⟩ := H
    refine jz_iald (dk dt_X11_blame 57 rfl) e_106 k_106 p_106 q_106 hw ?_
    refine j_iload_n (dk dt_X11_blame 58 rfl) rfl ?_
    refine j_iload (dk dt_X11_blame 59 rfl) rfl ?_
    refine j_aload (dk dt_X11_blame 60 rfl) rfl ?_
    refine jz_callV4 (dk dt_X11_blame 61 rfl) vl_X11_334 e_101 (T_X2_holds (hw.1 _ _) r_x3 r_x4 hw H) k_101 rfl (by decide) (Nat.zero_le _) (Nat.zero_le _) (Nat.le_of_ble_eq_true rfl) (fun v_112 h_112 P_112 => ?_)
    obtain ⟨x_112, rfl, r_112, rfl, H⟩ := P_112
    dsimp only [rs]
    refine jz_if_eq 133 (dk dt_X11_blame 62 rfl) (by decide) r_112 H (fun H => ?_) (fun H => ?_)
    · refine j_aload_n (dk dt_X11_blame 70 rfl) rfl ?_
      refine jz_getO (kz := 2) (dk dt_X11_blame 71 rfl) fl_X11_26 rfl rfl rfl k_94 ?_
      refine j_aload_n (dk dt_X11_blame 72 rfl) rfl ?_
      refine jz_getO (kz := 2) (dk dt_X11_blame 73 rfl) fl_X11_26 rfl rfl rfl k_94 ?_
      refine jz_getO (kz := 2) (dk dt_X11_blame 74 rfl) fl_X11_338 rfl rfl e_101 k_101 ?_
      refine j_iload (dk dt_X11_blame 75 rfl) rfl ?_
      obtain ⟨a_146, e_146, k_146, H⟩ := H
      obtain ⟨p_146, q_146, H⟩ := H
      refine jz_iald (dk dt_X11_blame 76 rfl) e_146 k_146 p_146 q_146 hw ?_
      refine j_iload_n (dk dt_X11_blame 77 rfl) rfl ?_
      refine j_iload (dk dt_X11_blame 78 rfl) rfl ?_
      refine j_aload (dk dt_X11_blame 79 rfl) rfl ?_
      refine jz_callV4 (dk dt_X11_blame 80 rfl) vl_X11_334 e_101 (T_X2_holds (hw.1 _ _) r_x3 r_x4 hw H) k_101 rfl (by decide) (Nat.zero_le _) (Nat.zero_le _) (Nat.le_of_ble_eq_true rfl) (fun v_152 h_152 P_152 => ?_)
      obtain ⟨x_152, rfl, r_152, rfl, H⟩ := P_152
      dsimp only [rs]
      refine jz_if_eq 173 (dk dt_X11_blame 81 rfl) (by decide) r_152 H (fun H => ?_) (fun H => ?_)
      · exact j_el (he1 _ H r_x6) (And.intro rfl trivial)
      · refine j_aload_n (dk dt_X11_blame 82 rfl) rfl ?_
        refine jz_getO (kz := 2) (dk dt_X11_blame 83 rfl) fl_X11_26 rfl rfl rfl k_94 ?_
        refine jz_getO (kz := 2) (dk dt_X11_blame 84 rfl) fl_X11_338 rfl rfl e_101 k_101 ?_
        refine j_iload (dk dt_X11_blame 85 rfl) rfl ?_
        refine jz_iald (dk dt_X11_blame 86 rfl) e_146 k_146 p_146 q_146 hw ?_
        refine j_istore (dk dt_X11_blame 87 rfl) (by decide) ?_
        refine j_goto 176 (dk dt_X11_blame 88 rfl) (by decide) ?_
        exact j_el (T_X11_blame_176 r_x3 r_x4 (hw.1 _ _) r_x7 hw  hl he0 he1 H) (And.intro rfl (And.intro rfl (And.intro rfl (And.intro rfl (And.intro rfl (And.intro rfl trivial))))))
    · refine j_aload_n (dk dt_X11_blame 63 rfl) rfl ?_
      refine jz_getO (kz := 2) (dk dt_X11_blame 64 rfl) fl_X11_26 rfl rfl rfl k_94 ?_
      refine jz_getO (kz := 1) (dk dt_X11_blame 65 rfl) fl_X11_285 rfl rfl e_101 k_101 ?_
      refine j_iload (dk dt_X11_blame 66 rfl) rfl ?_
      refine jz_iald (dk dt_X11_blame 67 rfl) e_106 k_106 p_106 q_106 hw ?_
      refine j_istore (dk dt_X11_blame 68 rfl) (by decide) ?_
      refine j_goto 176 (dk dt_X11_blame 69 rfl) (by decide) ?_
      exact j_el (T_X11_blame_176 r_x3 r_x4 (hw.1 _ _) r_x7 hw  hl he0 he1 H) (And.intro rfl (And.intro rfl (And.intro rfl (And.intro rfl (And.intro rfl (And.intro rfl trivial))))))
def F_X11_blame_86  (t0 : Nat) (x3 : Int) (x4 : Int) (x5 : Option Nat) (x6 : Int) (x7 : Int) (z : Z) (c : Nat) (s : Nat) (P : Int → Z → Prop) (X : Nat → Z → Prop) : Prop :=
  lp (S := Int × Int) (E := (Int) ⊕ (Int)) (fun q P_ => L_X11_blame_86 t0 x3 x4 x5 q.1 q.2 z c s P_) (x6, x7) (fun e => match e with | (.inl x6) => P x6 z | (.inr x6) => P x6 z)
theorem T_X11_blame_86  {t0 : Nat} {x3 : Int} {x4 : Int} {x5 : Option Nat} {x6 : Int} {x7 : Int} {z : Z} {c : Nat} {s : Nat} {P : Int → Z → Prop} {X : Nat → Z → Prop} (r_x3 : R32 x3) (r_x4 : R32 x4) (r_x6 : R32 x6) (r_x7 : R32 x7) (hw : Wz z)   (H : F_X11_blame_86 t0 x3 x4 x5 x6 x7 z c s P X) : J mX11_blame 6 c s (QX (QZI P) X) 86 [some (vr (some t0)), none, none, some (ii (x3)), some (ii (x4)), some (vr (x5)), some (ii (x6)), some (ii (x7))] [] (cz z) := by
  unfold F_X11_blame_86 at H
  refine lp_J (G := fun q => R32 (q.1) → R32 (q.2) → J mX11_blame 6 c s (QX (QZI P) X) 86 [some (vr (some t0)), none, none, some (ii (x3)), some (ii (x4)), some (vr (x5)), some (ii ((q.1))), some (ii ((q.2)))] [] (cz z)) (fun q P_ hl_ he_ Hb => ?_) (x6, x7) H r_x6 r_x7
  obtain ⟨x6, x7⟩ := q
  intro r_x6 r_x7
  refine U_X11_blame_86 (P := P_) r_x3 r_x4 r_x6 r_x7 hw  (fun x6 x7 Hp r_x6 r_x7 => hl_ (x6, x7) Hp r_x6 r_x7) ?_ ?_ Hb
  · intro x6 Hp r_x6
    have H := he_ _ Hp
    refine j_iload (dk dt_X11_blame 93 rfl) rfl ?_
    exact j_ireturn (dk dt_X11_blame 94 rfl) rfl rfl ⟨_, _, rfl, r_x6, rfl, hw, H⟩
  · intro x6 Hp r_x6
    have H := he_ _ Hp
    refine j_iload (dk dt_X11_blame 89 rfl) rfl ?_
    exact j_ireturn (dk dt_X11_blame 90 rfl) rfl rfl ⟨_, _, rfl, r_x6, rfl, hw, H⟩
def F_X11_blame  (t0 : Nat) (x1 : Int) (x2 : Int) (z : Z) (c : Nat) (s : Nat) (P : Int → Z → Prop) (X : Nat → Z → Prop) : Prop :=
  (zK z t0 = 12 ∧ (∃ a_6, zO z t0 11 = some a_6 ∧ zK z a_6 = 7 ∧ F_X6_has a_6 x1 x2 z (fun x_6 => (if x_6 = 0 then (1 ≤ c ∧ 6 ≤ s ∧ X 0 z) else (∃ a_30, zO z a_6 0 = some a_30 ∧ zK z a_30 = 15 ∧ (0 ≤ w32 (x1 - 1) ∧ w32 (x1 - 1) < zN z a_30 ∧ (∃ a_42, zO z a_6 1 = some a_42 ∧ zK z a_42 = 15 ∧ (0 ≤ w32 (x2 - 1) ∧ w32 (x2 - 1) < zN z a_42 ∧ F_X6_at a_6 x1 x2 z (fun x_51 => F_X11_head t0 z (fun x_61 => (∃ a_69, zO z t0 2 = some a_69 ∧ zK z a_69 = 3 ∧ F_X2_holds a_69 x_61 (zI z a_30 (w32 (x1 - 1))) (zI z a_42 (w32 (x2 - 1))) x_51 z (fun x_69 => (if x_69 = 0 then P (-1) z else F_X11_head t0 z (fun x_78 => F_X11_blame_86 t0 (zI z a_30 (w32 (x1 - 1))) (zI z a_42 (w32 (x2 - 1))) x_51 x_78 0 z c s P X))))))))))))))
theorem T_X11_blame  {t0 : Nat} {x1 : Int} {x2 : Int} {z : Z} {c : Nat} {s : Nat} {P : Int → Z → Prop} {X : Nat → Z → Prop} (r_x1 : R32 x1) (r_x2 : R32 x2) (hw : Wz z)  (H : F_X11_blame t0 x1 x2 z c s P X) : ConX mX11_blame 6 c s [vr (some t0), ii (x1), ii (x2)] (cz z) (QX (QZI P) X) := by
  refine con_ofX rfl (Nat.le_of_ble_eq_true rfl) (by decide) (by decide) ?_
  show J mX11_blame 6 c s _ 0 [some (vr (some t0)), some (ii (x1)), some (ii (x2)), none, none, none, none, none] [] (cz z)
  unfold F_X11_blame at H
  refine j_aload_n (dk dt_X11_blame 0 rfl) rfl ?_
  obtain ⟨k_1, H⟩ := H
  refine jz_getO (kz := 11) (dk dt_X11_blame 1 rfl) fl_X11_104 rfl rfl rfl k_1 ?_
  refine j_iload_n (dk dt_X11_blame 2 rfl) rfl ?_
  refine j_iload_n (dk dt_X11_blame 3 rfl) rfl ?_
  obtain ⟨a_6, e_6, k_6, H⟩ := H
  refine jz_callV2 (dk dt_X11_blame 4 rfl) vl_X11_113 e_6 (T_X6_has r_x1 r_x2 hw H) k_6 rfl (by decide) (Nat.zero_le _) (Nat.zero_le _) (Nat.le_of_ble_eq_true rfl) (fun v_6 h_6 P_6 => ?_)
  obtain ⟨x_6, rfl, r_6, rfl, H⟩ := P_6
  dsimp only [rs]
  refine jz_if_ne 20 (dk dt_X11_blame 5 rfl) (by decide) r_6 H (fun H => ?_) (fun H => ?_)
  · obtain ⟨hc_, hs_, H⟩ := H
    exact j_throw (E := "java/lang/IndexOutOfBoundsException") ⟨117, 119, by decide, (dk dt_X11_blame 6 rfl), (dk dt_X11_blame 7 rfl), (dk dt_X11_blame 8 rfl), (dk dt_X11_blame 9 rfl)⟩ hc_ hs_ (Nat.le_of_ble_eq_true rfl) ⟨0, _, rfl, rfl, hw, H⟩
  · refine j_aload_n (dk dt_X11_blame 10 rfl) rfl ?_
    refine jz_getO (kz := 11) (dk dt_X11_blame 11 rfl) fl_X11_104 rfl rfl rfl k_1 ?_
    refine jz_getO (kz := 0) (dk dt_X11_blame 12 rfl) fl_X11_190 rfl rfl e_6 k_6 ?_
    refine j_iload_n (dk dt_X11_blame 13 rfl) rfl ?_
    refine j_iconst (v := Int32.ofInt 1) (dk dt_X11_blame 14 rfl) (by decide) ?_
    refine jz_isub (dk dt_X11_blame 15 rfl) ?_
    obtain ⟨a_30, e_30, k_30, H⟩ := H
    obtain ⟨p_30, q_30, H⟩ := H
    refine jz_iald (dk dt_X11_blame 16 rfl) e_30 k_30 p_30 q_30 hw ?_
    refine j_istore_n (dk dt_X11_blame 17 rfl) (by decide) ?_
    refine j_aload_n (dk dt_X11_blame 18 rfl) rfl ?_
    refine jz_getO (kz := 11) (dk dt_X11_blame 19 rfl) fl_X11_104 rfl rfl rfl k_1 ?_
    refine jz_getO (kz := 1) (dk dt_X11_blame 20 rfl) fl_X11_197 rfl rfl e_6 k_6 ?_
    refine j_iload_n (dk dt_X11_blame 21 rfl) rfl ?_
    refine j_iconst (v := Int32.ofInt 1) (dk dt_X11_blame 22 rfl) (by decide) ?_
    refine jz_isub (dk dt_X11_blame 23 rfl) ?_
    obtain ⟨a_42, e_42, k_42, H⟩ := H
    obtain ⟨p_42, q_42, H⟩ := H
    refine jz_iald (dk dt_X11_blame 24 rfl) e_42 k_42 p_42 q_42 hw ?_
    refine j_istore (dk dt_X11_blame 25 rfl) (by decide) ?_
    refine j_aload_n (dk dt_X11_blame 26 rfl) rfl ?_
    refine jz_getO (kz := 11) (dk dt_X11_blame 27 rfl) fl_X11_104 rfl rfl rfl k_1 ?_
    refine j_iload_n (dk dt_X11_blame 28 rfl) rfl ?_
    refine j_iload_n (dk dt_X11_blame 29 rfl) rfl ?_
    refine jz_callV2 (dk dt_X11_blame 30 rfl) vl_X11_152 e_6 (T_X6_at r_x1 r_x2 hw H) k_6 rfl (by decide) (Nat.zero_le _) (Nat.zero_le _) (Nat.le_of_ble_eq_true rfl) (fun v_51 h_51 P_51 => ?_)
    obtain ⟨x_51, rfl, rfl, H⟩ := P_51
    dsimp only [rs]
    refine j_astore (dk dt_X11_blame 31 rfl) (by decide) ?_
    refine j_aload_n (dk dt_X11_blame 32 rfl) rfl ?_
    refine jz_getO (kz := 2) (dk dt_X11_blame 33 rfl) fl_X11_26 rfl rfl rfl k_1 ?_
    refine j_aload_n (dk dt_X11_blame 34 rfl) rfl ?_
    refine jz_callV0 (dk dt_X11_blame 35 rfl) vl_X11_249 rfl (T_X11_head hw H) k_1 rfl (by decide) (Nat.zero_le _) (Nat.zero_le _) (Nat.le_of_ble_eq_true rfl) (fun v_61 h_61 P_61 => ?_)
    obtain ⟨x_61, rfl, r_61, rfl, H⟩ := P_61
    dsimp only [rs]
    refine j_iload_n (dk dt_X11_blame 36 rfl) rfl ?_
    refine j_iload (dk dt_X11_blame 37 rfl) rfl ?_
    refine j_aload (dk dt_X11_blame 38 rfl) rfl ?_
    obtain ⟨a_69, e_69, k_69, H⟩ := H
    refine jz_callV4 (dk dt_X11_blame 39 rfl) vl_X11_334 e_69 (T_X2_holds r_61 (hw.1 _ _) (hw.1 _ _) hw H) k_69 rfl (by decide) (Nat.zero_le _) (Nat.zero_le _) (Nat.le_of_ble_eq_true rfl) (fun v_69 h_69 P_69 => ?_)
    obtain ⟨x_69, rfl, r_69, rfl, H⟩ := P_69
    dsimp only [rs]
    refine jz_if_ne 77 (dk dt_X11_blame 40 rfl) (by decide) r_69 H (fun H => ?_) (fun H => ?_)
    · refine j_iconst (v := Int32.ofInt (-1)) (dk dt_X11_blame 41 rfl) (by decide) ?_
      exact j_ireturn (dk dt_X11_blame 42 rfl) rfl rfl ⟨_, _, rfl, (by decide), rfl, hw, H⟩
    · refine j_aload_n (dk dt_X11_blame 43 rfl) rfl ?_
      refine jz_callV0 (dk dt_X11_blame 44 rfl) vl_X11_249 rfl (T_X11_head hw H) k_1 rfl (by decide) (Nat.zero_le _) (Nat.zero_le _) (Nat.le_of_ble_eq_true rfl) (fun v_78 h_78 P_78 => ?_)
      obtain ⟨x_78, rfl, r_78, rfl, H⟩ := P_78
      dsimp only [rs]
      refine j_istore (dk dt_X11_blame 45 rfl) (by decide) ?_
      refine j_iconst (v := Int32.ofInt 0) (dk dt_X11_blame 46 rfl) (by decide) ?_
      refine j_istore (dk dt_X11_blame 47 rfl) (by decide) ?_
      exact j_el (T_X11_blame_86 (hw.1 _ _) (hw.1 _ _) r_78 (by decide) hw   H) (And.intro rfl (And.intro rfl (And.intro rfl (And.intro rfl (And.intro rfl (And.intro rfl trivial))))))
def F_X11_isBranch_15  (s0 : Int) (P : Int → Prop) : Prop :=
  (Z1 s0 ∧ P s0)
theorem T_X11_isBranch_15  {s0 : Int} {P : Int → Prop} {h : Hp} (r_s0 : R32 s0)    (H : F_X11_isBranch_15 s0 P) : J mX11_isBranch 1 0 0 (nx (QPI h P)) 15 [none] [ii (s0)] h := by
  unfold F_X11_isBranch_15 at H
  obtain ⟨hz_, H⟩ := H
  exact j_ireturn (dk dt_X11_isBranch 8 rfl) rfl (nar_z hz_) ⟨_, rfl, r_s0, rfl, H⟩
def F_X11_isBranch_14  (P : Int → Prop) : Prop :=
  F_X11_isBranch_15 0 P
theorem T_X11_isBranch_14  {P : Int → Prop} {h : Hp}     (H : F_X11_isBranch_14 P) : J mX11_isBranch 1 0 0 (nx (QPI h P)) 14 [none] [] h := by
  unfold F_X11_isBranch_14 at H
  refine j_iconst (v := Int32.ofInt 0) (dk dt_X11_isBranch 7 rfl) (by decide) ?_
  exact j_el (T_X11_isBranch_15 (by decide)    H) trivial
def F_X11_isBranch  (x0 : Int) (P : Int → Prop) : Prop :=
  (if x0 < 0 then F_X11_isBranch_14  P else (if 6 ≤ x0 then F_X11_isBranch_14  P else F_X11_isBranch_15 1 P))
theorem T_X11_isBranch  {x0 : Int} {P : Int → Prop} {h : Hp} (r_x0 : R32 x0)   (H : F_X11_isBranch x0 P) : Con mX11_isBranch 1 0 0 [ii (x0)] h (QPI h P) := by
  refine con_of rfl (Nat.le_of_ble_eq_true rfl) (by decide) ?_
  show J mX11_isBranch 1 0 0 _ 0 [some (ii (x0))] [] h
  unfold F_X11_isBranch at H
  refine j_iload_n (dk dt_X11_isBranch 0 rfl) rfl ?_
  refine jz_if_lt 14 (dk dt_X11_isBranch 1 rfl) (by decide) r_x0 H (fun H => ?_) (fun H => ?_)
  · exact j_el (T_X11_isBranch_14     H) trivial
  · refine j_iload_n (dk dt_X11_isBranch 2 rfl) rfl ?_
    refine j_bipush (v := Int32.ofInt 6) (dk dt_X11_isBranch 3 rfl) (by decide) ?_
    refine jz_icmp_ge 14 (dk dt_X11_isBranch 4 rfl) (by decide) r_x0 (by decide) H (fun H => ?_) (fun H => ?_)
    · exact j_el (T_X11_isBranch_14     H) trivial
    · refine j_iconst (v := Int32.ofInt 1) (dk dt_X11_isBranch 5 rfl) (by decide) ?_
      refine j_goto 15 (dk dt_X11_isBranch 6 rfl) (by decide) ?_
      exact j_el (T_X11_isBranch_15 (by decide)    H) trivial
def F_X11_branch  (t0 : Nat) (x1 : Int) (z : Z) (c : Nat) (s : Nat) (P : Int → Z → Prop) (X : Nat → Z → Prop) : Prop :=
  F_X11_isBranch x1 (fun x_1 => (if x_1 = 0 then (1 ≤ c ∧ 6 ≤ s ∧ X 0 z) else (zK z t0 = 12 ∧ (∃ a_20, zO z t0 8 = some a_20 ∧ zK z a_20 = 15 ∧ (0 ≤ x1 ∧ x1 < zN z a_20 ∧ (if zI z a_20 x1 = (-1) then F_X11_head t0 z (fun x_39 => (∀ z_42, z_42 = wI z a_20 x1 x_39 → F_X11_head t0 z_42 (fun x_44 => P x_44 z_42))) else (1 ≤ c ∧ 6 ≤ s ∧ X 3 z)))))))
theorem T_X11_branch  {t0 : Nat} {x1 : Int} {z : Z} {c : Nat} {s : Nat} {P : Int → Z → Prop} {X : Nat → Z → Prop} (r_x1 : R32 x1) (hw : Wz z)  (H : F_X11_branch t0 x1 z c s P X) : ConX mX11_branch 6 c s [vr (some t0), ii (x1)] (cz z) (QX (QZI P) X) := by
  refine con_ofX rfl (Nat.le_of_ble_eq_true rfl) (by decide) (by decide) ?_
  show J mX11_branch 6 c s _ 0 [some (vr (some t0)), some (ii (x1))] [] (cz z)
  unfold F_X11_branch at H
  refine j_iload_n (dk dt_X11_branch 0 rfl) rfl ?_
  refine j_callS1 (dk dt_X11_branch 1 rfl) sl_X11_253 (T_X11_isBranch r_x1 H) rfl (by decide) (Nat.zero_le _) (Nat.zero_le _) (Nat.le_of_ble_eq_true rfl) (fun v_1 h_1 P_1 => ?_)
  obtain ⟨x_1, rfl, r_1, rfl, H⟩ := P_1
  dsimp only [rs]
  refine jz_if_ne 15 (dk dt_X11_branch 2 rfl) (by decide) r_1 H (fun H => ?_) (fun H => ?_)
  · obtain ⟨hc_, hs_, H⟩ := H
    exact j_throw (E := "java/lang/IndexOutOfBoundsException") ⟨117, 119, by decide, (dk dt_X11_branch 3 rfl), (dk dt_X11_branch 4 rfl), (dk dt_X11_branch 5 rfl), (dk dt_X11_branch 6 rfl)⟩ hc_ hs_ (Nat.le_of_ble_eq_true rfl) ⟨0, _, rfl, rfl, hw, H⟩
  · refine j_aload_n (dk dt_X11_branch 7 rfl) rfl ?_
    obtain ⟨k_16, H⟩ := H
    refine jz_getO (kz := 8) (dk dt_X11_branch 8 rfl) fl_X11_70 rfl rfl rfl k_16 ?_
    refine j_iload_n (dk dt_X11_branch 9 rfl) rfl ?_
    obtain ⟨a_20, e_20, k_20, H⟩ := H
    obtain ⟨p_20, q_20, H⟩ := H
    refine jz_iald (dk dt_X11_branch 10 rfl) e_20 k_20 p_20 q_20 hw ?_
    refine j_iconst (v := Int32.ofInt (-1)) (dk dt_X11_branch 11 rfl) (by decide) ?_
    refine jz_icmp_eq 33 (dk dt_X11_branch 12 rfl) (by decide) (hw.1 _ _) (by decide) H (fun H => ?_) (fun H => ?_)
    · refine j_aload_n (dk dt_X11_branch 17 rfl) rfl ?_
      refine jz_getO (kz := 8) (dk dt_X11_branch 18 rfl) fl_X11_70 rfl rfl rfl k_16 ?_
      refine j_iload_n (dk dt_X11_branch 19 rfl) rfl ?_
      refine j_aload_n (dk dt_X11_branch 20 rfl) rfl ?_
      refine jz_callV0 (dk dt_X11_branch 21 rfl) vl_X11_249 rfl (T_X11_head hw H) k_16 rfl (by decide) (Nat.zero_le _) (Nat.zero_le _) (Nat.le_of_ble_eq_true rfl) (fun v_39 h_39 P_39 => ?_)
      obtain ⟨x_39, rfl, r_39, rfl, H⟩ := P_39
      dsimp only [rs]
      refine jz_iast (dk dt_X11_branch 22 rfl) e_20 k_20 p_20 q_20 hw r_39 (fun w_42 => ?_)
      replace H := H _ rfl
      refine j_aload_n (dk dt_X11_branch 23 rfl) rfl ?_
      refine jz_callV0 (dk dt_X11_branch 24 rfl) vl_X11_249 rfl (T_X11_head w_42 H) k_16 rfl (by decide) (Nat.zero_le _) (Nat.zero_le _) (Nat.le_of_ble_eq_true rfl) (fun v_44 h_44 P_44 => ?_)
      obtain ⟨x_44, rfl, r_44, rfl, H⟩ := P_44
      dsimp only [rs]
      exact j_ireturn (dk dt_X11_branch 25 rfl) rfl rfl ⟨_, _, rfl, r_44, rfl, w_42, H⟩
    · obtain ⟨hc_, hs_, H⟩ := H
      exact j_throw (E := "java/lang/IllegalStateException") ⟨167, 169, by decide, (dk dt_X11_branch 13 rfl), (dk dt_X11_branch 14 rfl), (dk dt_X11_branch 15 rfl), (dk dt_X11_branch 16 rfl)⟩ hc_ hs_ (Nat.le_of_ble_eq_true rfl) ⟨3, _, rfl, rfl, hw, H⟩
def F_X11_without_36  (x0 : Option Nat) (x1 : Int) (x2 : Option Nat) (x3 : Int) (s0 : Option Nat) (s1 : Int) (s2 : Option Nat) (s3 : Int) (z : Z) (c : Nat) (s : Nat) (P : (Int × Z) ⊕ ((Z)) → Prop) : Prop :=
  (∃ a_36, s2 = some a_36 ∧ zK z a_36 = 15 ∧ (0 ≤ s3 ∧ s3 < zN z a_36 ∧ (∃ a_37, s0 = some a_37 ∧ zK z a_37 = 15 ∧ (0 ≤ s1 ∧ s1 < zN z a_37 ∧ (∀ z_37, z_37 = wI z a_37 s1 (zI z a_36 s3) → P (.inl (w32 (x3 + 1), z_37)))))))
theorem T_X11_without_36  {x0 : Option Nat} {x1 : Int} {x2 : Option Nat} {x3 : Int} {s0 : Option Nat} {s1 : Int} {s2 : Option Nat} {s3 : Int} {z : Z} {c : Nat} {s : Nat} {P : (Int × Z) ⊕ ((Z)) → Prop} {post : Option Sv ⊕ String → Hp → Prop} (r_x1 : R32 x1) (r_x3 : R32 x3) (r_s1 : R32 s1) (r_s3 : R32 s3) (hw : Wz z)  (hl : ∀ (x3 : Int) (z : Z), P (.inl (x3, z)) → Wz z → R32 x3 → J mX11_without 4 c s post 13 [some (vr (x0)), some (ii (x1)), some (vr (x2)), some (ii (x3))] [] (cz z)) (he0 : ∀ (z : Z), P (.inr z) → Wz z → J mX11_without 4 c s post 44 [none, none, some (vr (x2)), none] [] (cz z)) (H : F_X11_without_36 x0 x1 x2 x3 s0 s1 s2 s3 z c s P) : J mX11_without 4 c s (post) 36 [some (vr (x0)), some (ii (x1)), some (vr (x2)), some (ii (x3))] [ii (s3), vr (s2), ii (s1), vr (s0)] (cz z) := by
  unfold F_X11_without_36 at H
  obtain ⟨a_36, e_36, k_36, H⟩ := H
  obtain ⟨p_36, q_36, H⟩ := H
  refine jz_iald (dk dt_X11_without 27 rfl) e_36 k_36 p_36 q_36 hw ?_
  obtain ⟨a_37, e_37, k_37, H⟩ := H
  obtain ⟨p_37, q_37, H⟩ := H
  refine jz_iast (dk dt_X11_without 28 rfl) e_37 k_37 p_37 q_37 hw (hw.1 _ _) (fun w_37 => ?_)
  replace H := H _ rfl
  refine jz_iinc (dk dt_X11_without 29 rfl) rfl ?_
  refine j_goto 13 (dk dt_X11_without 30 rfl) (by decide) ?_
  exact j_el (hl _ _ H w_37 (r32_w _)) (And.intro rfl (And.intro rfl (And.intro rfl (And.intro rfl trivial))))
def L_X11_without_13  (x0 : Option Nat) (x1 : Int) (x2 : Option Nat) (x3 : Int) (z : Z) (c : Nat) (s : Nat) (P : (Int × Z) ⊕ ((Z)) → Prop) : Prop :=
  (∃ a_15, x2 = some a_15 ∧ zK z a_15 = 15 ∧ (if zN z a_15 ≤ x3 then P (.inr z) else (if w32 (x1 - 1) ≤ x3 then F_X11_without_36 x0 x1 x2 x3 x2 x3 x0 (w32 (x3 + 1)) z c s P else F_X11_without_36 x0 x1 x2 x3 x2 x3 x0 x3 z c s P)))
theorem U_X11_without_13  {x0 : Option Nat} {x1 : Int} {x2 : Option Nat} {x3 : Int} {z : Z} {c : Nat} {s : Nat} {P : (Int × Z) ⊕ ((Z)) → Prop} {post : Option Sv ⊕ String → Hp → Prop} (r_x1 : R32 x1) (r_x3 : R32 x3) (hw : Wz z)  (hl : ∀ (x3 : Int) (z : Z), P (.inl (x3, z)) → Wz z → R32 x3 → J mX11_without 4 c s post 13 [some (vr (x0)), some (ii (x1)), some (vr (x2)), some (ii (x3))] [] (cz z)) (he0 : ∀ (z : Z), P (.inr z) → Wz z → J mX11_without 4 c s post 44 [none, none, some (vr (x2)), none] [] (cz z)) (H : L_X11_without_13 x0 x1 x2 x3 z c s P) : J mX11_without 4 c s post 13 [some (vr (x0)), some (ii (x1)), some (vr (x2)), some (ii (x3))] [] (cz z) := by
  unfold L_X11_without_13 at H
  refine j_iload_n (dk dt_X11_without 10 rfl) rfl ?_
  refine j_aload_n (dk dt_X11_without 11 rfl) rfl ?_
  obtain ⟨a_15, e_15, k_15, H⟩ := H
  refine jz_alen (t := 1) (dk dt_X11_without 12 rfl) e_15 k_15 (by decide) hw ?_
  refine jz_icmp_ge 44 (dk dt_X11_without 13 rfl) (by decide) r_x3 (r32_len hw _) H (fun H => ?_) (fun H => ?_)
  · exact j_el (he0 _ H hw) (And.intro rfl trivial)
  · refine j_aload_n (dk dt_X11_without 14 rfl) rfl ?_
    refine j_iload_n (dk dt_X11_without 15 rfl) rfl ?_
    refine j_aload_n (dk dt_X11_without 16 rfl) rfl ?_
    refine j_iload_n (dk dt_X11_without 17 rfl) rfl ?_
    refine j_iload_n (dk dt_X11_without 18 rfl) rfl ?_
    refine j_iconst (v := Int32.ofInt 1) (dk dt_X11_without 19 rfl) (by decide) ?_
    refine jz_isub (dk dt_X11_without 20 rfl) ?_
    refine jz_icmp_ge 33 (dk dt_X11_without 21 rfl) (by decide) r_x3 (r32_w _) H (fun H => ?_) (fun H => ?_)
    · refine j_iload_n (dk dt_X11_without 24 rfl) rfl ?_
      refine j_iconst (v := Int32.ofInt 1) (dk dt_X11_without 25 rfl) (by decide) ?_
      refine jz_iadd (dk dt_X11_without 26 rfl) ?_
      exact j_el (T_X11_without_36 r_x1 r_x3 r_x3 (r32_w _) hw  hl he0 H) (And.intro rfl (And.intro rfl (And.intro rfl (And.intro rfl trivial))))
    · refine j_iload_n (dk dt_X11_without 22 rfl) rfl ?_
      refine j_goto 36 (dk dt_X11_without 23 rfl) (by decide) ?_
      exact j_el (T_X11_without_36 r_x1 r_x3 r_x3 r_x3 hw  hl he0 H) (And.intro rfl (And.intro rfl (And.intro rfl (And.intro rfl trivial))))
def F_X11_without_13  (x0 : Option Nat) (x1 : Int) (x2 : Option Nat) (x3 : Int) (z : Z) (c : Nat) (s : Nat) (P : Option Nat → Z → Prop) : Prop :=
  lp (S := Int × Z) (E := (Z)) (fun q P_ => L_X11_without_13 x0 x1 x2 q.1 q.2 c s P_) (x3, z) (fun (z : Z) => P x2 z)
theorem T_X11_without_13  {x0 : Option Nat} {x1 : Int} {x2 : Option Nat} {x3 : Int} {z : Z} {c : Nat} {s : Nat} {P : Option Nat → Z → Prop} (r_x1 : R32 x1) (r_x3 : R32 x3) (hw : Wz z)   (H : F_X11_without_13 x0 x1 x2 x3 z c s P) : J mX11_without 4 c s (nx (QZA P)) 13 [some (vr (x0)), some (ii (x1)), some (vr (x2)), some (ii (x3))] [] (cz z) := by
  unfold F_X11_without_13 at H
  refine lp_J (G := fun q => Wz (q.2) → R32 (q.1) → J mX11_without 4 c s (nx (QZA P)) 13 [some (vr (x0)), some (ii (x1)), some (vr (x2)), some (ii ((q.1)))] [] (cz (q.2))) (fun q P_ hl_ he_ Hb => ?_) (x3, z) H hw r_x3
  obtain ⟨x3, z⟩ := q
  intro hw r_x3
  refine U_X11_without_13 (P := P_) r_x1 r_x3 hw  (fun x3 z Hp hw r_x3 => hl_ (x3, z) Hp hw r_x3) ?_ Hb
  · intro z Hp hw
    have H := he_ _ Hp
    refine j_aload_n (dk dt_X11_without 31 rfl) rfl ?_
    exact j_areturn (dk dt_X11_without 32 rfl) rfl rfl ⟨_, _, rfl, rfl, hw, H⟩
def F_X11_without  (x0 : Option Nat) (x1 : Int) (z : Z) (c : Nat) (s : Nat) (P : Option Nat → Z → Prop) : Prop :=
  (∃ a_1, x0 = some a_1 ∧ zK z a_1 = 15 ∧ (0 ≤ max (w32 ((zN z a_1) - 1)) 0 ∧ max (w32 ((zN z a_1) - 1)) 0 < (33554432 : Int) ∧ 1 ≤ c ∧ Int.toNat (max (w32 ((zN z a_1) - 1)) 0) ≤ s ∧ ∀ a_8, zK z a_8 = 0 → (∀ z_8, z_8 = nZ z a_8 15 (max (w32 ((zN z a_1) - 1)) 0) → F_X11_without_13 x0 x1 (some a_8) 0 z_8 (c - 1) (s - Int.toNat (max (w32 ((zN z a_1) - 1)) 0)) P)))
theorem T_X11_without  {x0 : Option Nat} {x1 : Int} {z : Z} {c : Nat} {s : Nat} {P : Option Nat → Z → Prop} (r_x1 : R32 x1) (hw : Wz z)  (H : F_X11_without x0 x1 z c s P) : Con mX11_without 4 c s [vr (x0), ii (x1)] (cz z) (QZA P) := by
  refine con_of rfl (Nat.le_of_ble_eq_true rfl) (by decide) ?_
  show J mX11_without 4 c s _ 0 [some (vr (x0)), some (ii (x1)), none, none] [] (cz z)
  unfold F_X11_without at H
  refine j_aload_n (dk dt_X11_without 0 rfl) rfl ?_
  obtain ⟨a_1, e_1, k_1, H⟩ := H
  refine jz_alen (t := 1) (dk dt_X11_without 1 rfl) e_1 k_1 (by decide) hw ?_
  refine j_iconst (v := Int32.ofInt 1) (dk dt_X11_without 2 rfl) (by decide) ?_
  refine jz_isub (dk dt_X11_without 3 rfl) ?_
  refine j_iconst (v := Int32.ofInt 0) (dk dt_X11_without 4 rfl) (by decide) ?_
  refine jz_mmax (dk dt_X11_without 5 rfl) sl_X11_365 (by decide) (Nat.le_of_ble_eq_true rfl) (r32_w _) (by decide) ?_
  obtain ⟨p_8, q_8, hc_8, hs_8, H⟩ := H
  refine jz_newI (dk dt_X11_without 6 rfl) p_8 q_8 hc_8 hs_8 hw (fun a_8 e_8 w_8 => ?_)
  replace H := H a_8 e_8
  replace H := H _ rfl
  refine j_astore_n (dk dt_X11_without 7 rfl) (by decide) ?_
  refine j_iconst (v := Int32.ofInt 0) (dk dt_X11_without 8 rfl) (by decide) ?_
  refine j_istore_n (dk dt_X11_without 9 rfl) (by decide) ?_
  exact j_el (T_X11_without_13 r_x1 (by decide) w_8   H) (And.intro rfl (And.intro rfl (And.intro rfl (And.intro rfl trivial))))
def F_X6_line_15  (s0 : Option Nat) (z : Z) (P : Option Nat → Prop) : Prop :=
  P s0
theorem T_X6_line_15  {s0 : Option Nat} {z : Z} {P : Option Nat → Prop}  (hw : Wz z)   (H : F_X6_line_15 s0 z P) : J mX6_line 1 0 0 (nx (QPA (cz z) P)) 15 [none, none] [vr (s0)] (cz z) := by
  unfold F_X6_line_15 at H
  exact j_areturn (dk dt_X6_line 7 rfl) rfl rfl ⟨_, rfl, rfl, H⟩
def F_X6_line  (t0 : Nat) (x1 : Int) (z : Z) (P : Option Nat → Prop) : Prop :=
  (if x1 = 0 then (zK z t0 = 7 ∧ F_X6_line_15 (zO z t0 0) z P) else (zK z t0 = 7 ∧ F_X6_line_15 (zO z t0 1) z P))
theorem T_X6_line  {t0 : Nat} {x1 : Int} {z : Z} {P : Option Nat → Prop} (r_x1 : R32 x1) (hw : Wz z)  (H : F_X6_line t0 x1 z P) : Con mX6_line 1 0 0 [vr (some t0), ii (x1)] (cz z) (QPA (cz z) P) := by
  refine con_of rfl (Nat.le_of_ble_eq_true rfl) (by decide) ?_
  show J mX6_line 1 0 0 _ 0 [some (vr (some t0)), some (ii (x1))] [] (cz z)
  unfold F_X6_line at H
  refine j_iload_n (dk dt_X6_line 0 rfl) rfl ?_
  refine jz_if_ne 11 (dk dt_X6_line 1 rfl) (by decide) r_x1 H (fun H => ?_) (fun H => ?_)
  · refine j_aload_n (dk dt_X6_line 2 rfl) rfl ?_
    obtain ⟨k_5, H⟩ := H
    refine jz_getO (kz := 0) (dk dt_X6_line 3 rfl) fl_X6_9 rfl rfl rfl k_5 ?_
    refine j_goto 15 (dk dt_X6_line 4 rfl) (by decide) ?_
    exact j_el (T_X6_line_15  hw   H) trivial
  · refine j_aload_n (dk dt_X6_line 5 rfl) rfl ?_
    obtain ⟨k_12, H⟩ := H
    refine jz_getO (kz := 1) (dk dt_X6_line 6 rfl) fl_X6_15 rfl rfl rfl k_12 ?_
    exact j_el (T_X6_line_15  hw   H) trivial
