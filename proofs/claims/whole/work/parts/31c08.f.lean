def L_X5_formula_103  (t0 : Nat) (x2 : Option Nat) (x3 : Int) (z : Z) (c : Nat) (s : Nat) (P : (Int × Z) ⊕ ((Z)) → Prop) : Prop :=
  (∃ a_105, x2 = some a_105 ∧ zK z a_105 = 20 ∧ (if zN z a_105 ≤ x3 then P (.inr z) else (zK z t0 = 6 ∧ (∃ a_116, zO z t0 1 = some a_116 ∧ zK z a_116 = 20 ∧ (0 ≤ x3 ∧ x3 < zN z a_116 ∧ (0 ≤ x3 ∧ x3 < zN z a_105 ∧ ((∀ v, zO z a_116 x3 = some v → zK z v = 5) ∧ (∀ z_117, z_117 = wO z a_105 x3 (zO z a_116 x3) → P (.inl (w32 (x3 + 1), z_117))))))))))
theorem U_X5_formula_103  {t0 : Nat} {x2 : Option Nat} {x3 : Int} {z : Z} {c : Nat} {s : Nat} {P : (Int × Z) ⊕ ((Z)) → Prop} {post : Option Sv ⊕ String → Hp → Prop} (r_x3 : R32 x3) (hw : Wz z)  (hl : ∀ (x3 : Int) (z : Z), P (.inl (x3, z)) → Wz z → R32 x3 → J mX5_formula 411 c s post 103 [some (vr (some t0)), none, some (vr (x2)), some (ii (x3))] [] (cz z)) (he0 : ∀ (z : Z), P (.inr z) → Wz z → J mX5_formula 411 c s post 124 [none, none, some (vr (x2)), none] [] (cz z)) (H : L_X5_formula_103 t0 x2 x3 z c s P) : J mX5_formula 411 c s post 103 [some (vr (some t0)), none, some (vr (x2)), some (ii (x3))] [] (cz z) := by
  unfold L_X5_formula_103 at H
  refine j_iload_n (dk dt_X5_formula 56 rfl) rfl ?_
  refine j_aload_n (dk dt_X5_formula 57 rfl) rfl ?_
  obtain ⟨a_105, e_105, k_105, H⟩ := H
  refine jz_alen (t := 6) (dk dt_X5_formula 58 rfl) e_105 k_105 (by decide) hw ?_
  refine jz_icmp_ge 124 (dk dt_X5_formula 59 rfl) (by decide) r_x3 (r32_len hw _) H (fun H => ?_) (fun H => ?_)
  · exact j_el (he0 _ H hw) (And.intro rfl trivial)
  · refine j_aload_n (dk dt_X5_formula 60 rfl) rfl ?_
    refine j_iload_n (dk dt_X5_formula 61 rfl) rfl ?_
    refine j_aload_n (dk dt_X5_formula 62 rfl) rfl ?_
    obtain ⟨k_112, H⟩ := H
    refine jz_getO (kz := 1) (dk dt_X5_formula 63 rfl) fl_X5_17 rfl rfl rfl k_112 ?_
    refine j_iload_n (dk dt_X5_formula 64 rfl) rfl ?_
    obtain ⟨a_116, e_116, k_116, H⟩ := H
    obtain ⟨p_116, q_116, H⟩ := H
    refine jz_aald (t := 6) (dk dt_X5_formula 65 rfl) e_116 k_116 (by decide) (by decide) p_116 q_116 hw ?_
    obtain ⟨p_117, q_117, H⟩ := H
    obtain ⟨v_117, H⟩ := H
    refine jz_aast (t := 6) (dk dt_X5_formula 66 rfl) e_105 k_105 (by decide) (by decide) p_117 q_117 hw v_117 (fun w_117 => ?_)
    replace H := H _ rfl
    refine jz_iinc (dk dt_X5_formula 67 rfl) rfl ?_
    refine j_goto 103 (dk dt_X5_formula 68 rfl) (by decide) ?_
    exact j_el (hl _ _ H w_117 (r32_w _)) (And.intro rfl (And.intro rfl (And.intro rfl trivial)))
def F_X5_formula_103  (t0 : Nat) (x2 : Option Nat) (x3 : Int) (z : Z) (c : Nat) (s : Nat) (P : Option Nat → Z → Prop) : Prop :=
  lp (S := Int × Z) (E := (Z)) (fun q P_ => L_X5_formula_103 t0 x2 q.1 q.2 c s P_) (x3, z) (fun (z : Z) => (1 ≤ c ∧ 3 ≤ s ∧ ∀ a_124, zK z a_124 = 0 → (∀ z_124, z_124 = nZ z a_124 2 0 → F_X1_init a_124 5 none x2 z_124 (fun z_131 => P (some a_124) z_131))))
theorem T_X5_formula_103  {t0 : Nat} {x2 : Option Nat} {x3 : Int} {z : Z} {c : Nat} {s : Nat} {P : Option Nat → Z → Prop} (r_x3 : R32 x3) (hw : Wz z)   (H : F_X5_formula_103 t0 x2 x3 z c s P) : J mX5_formula 411 c s (nx (QZA P)) 103 [some (vr (some t0)), none, some (vr (x2)), some (ii (x3))] [] (cz z) := by
  unfold F_X5_formula_103 at H
  refine lp_J (G := fun q => Wz (q.2) → R32 (q.1) → J mX5_formula 411 c s (nx (QZA P)) 103 [some (vr (some t0)), none, some (vr (x2)), some (ii ((q.1)))] [] (cz (q.2))) (fun q P_ hl_ he_ Hb => ?_) (x3, z) H hw r_x3
  obtain ⟨x3, z⟩ := q
  intro hw r_x3
  refine U_X5_formula_103 (P := P_) r_x3 hw  (fun x3 z Hp hw r_x3 => hl_ (x3, z) Hp hw r_x3) ?_ Hb
  · intro z Hp hw
    have H := he_ _ Hp
    obtain ⟨hc_124, hs_124, H⟩ := H
    refine jz_new (dk dt_X5_formula 69 rfl) cl_1 nl_X5_94 iw_1 zw_1 rfl hc_124 hs_124 hw (fun a_124 e_124 w_124 => ?_)
    replace H := H a_124 e_124
    replace H := H _ rfl
    refine j_dup (dk dt_X5_formula 70 rfl) rfl ?_
    refine j_iconst (v := Int32.ofInt 5) (dk dt_X5_formula 71 rfl) (by decide) ?_
    refine j_null (dk dt_X5_formula 72 rfl) ?_
    refine j_aload_n (dk dt_X5_formula 73 rfl) rfl ?_
    refine jz_callI3 (dk dt_X5_formula 74 rfl) il_X5_99 rfl (T_X1_init (by decide) w_124 H) rfl (by decide) (Nat.zero_le _) (Nat.zero_le _) (Nat.le_of_ble_eq_true rfl) (fun v_131 h_131 P_131 => ?_)
    obtain ⟨z_131, rfl, rfl, w_131, H⟩ := P_131
    dsimp only [rs]
    exact j_areturn (dk dt_X5_formula 75 rfl) rfl rfl ⟨_, _, rfl, rfl, w_131, H⟩
def F_X5_formula_84  (t0 : Nat) (z : Z) (c : Nat) (s : Nat) (P : Option Nat → Z → Prop) : Prop :=
  (zK z t0 = 6 ∧ (if zI z t0 4 = 0 then (0 ≤ zI z t0 10 ∧ zI z t0 10 < (33554432 : Int) ∧ 1 ≤ c ∧ Int.toNat (zI z t0 10) ≤ s ∧ ∀ a_97, zK z a_97 = 0 → (∀ z_97, z_97 = nZ z a_97 20 (zI z t0 10) → F_X5_formula_103 t0 (some a_97) 0 z_97 (c - 1) (s - Int.toNat (zI z t0 10)) P)) else P none z))
theorem T_X5_formula_84  {t0 : Nat} {z : Z} {c : Nat} {s : Nat} {P : Option Nat → Z → Prop}  (hw : Wz z)   (H : F_X5_formula_84 t0 z c s P) : J mX5_formula 411 c s (nx (QZA P)) 84 [some (vr (some t0)), none, none, none] [] (cz z) := by
  unfold F_X5_formula_84 at H
  refine j_aload_n (dk dt_X5_formula 45 rfl) rfl ?_
  obtain ⟨k_85, H⟩ := H
  refine jz_getI (kz := 4) (dk dt_X5_formula 46 rfl) fl_X5_36 rfl rfl rfl k_85 ?_
  refine jz_if_eq 93 (dk dt_X5_formula 47 rfl) (by decide) (hw.1 _ _) H (fun H => ?_) (fun H => ?_)
  · refine j_aload_n (dk dt_X5_formula 50 rfl) rfl ?_
    refine jz_getI (kz := 10) (dk dt_X5_formula 51 rfl) fl_X5_109 rfl rfl rfl k_85 ?_
    obtain ⟨p_97, q_97, hc_97, hs_97, H⟩ := H
    refine jz_newQ (t := 6) (dk dt_X5_formula 52 rfl) nl_X5_15 ao_4 (by decide) (fun _ => rfl) p_97 q_97 hc_97 hs_97 hw (fun a_97 e_97 w_97 => ?_)
    replace H := H a_97 e_97
    replace H := H _ rfl
    refine j_astore_n (dk dt_X5_formula 53 rfl) (by decide) ?_
    refine j_iconst (v := Int32.ofInt 0) (dk dt_X5_formula 54 rfl) (by decide) ?_
    refine j_istore_n (dk dt_X5_formula 55 rfl) (by decide) ?_
    exact j_el (T_X5_formula_103 (by decide) w_97   H) (And.intro rfl (And.intro rfl (And.intro rfl trivial)))
  · refine j_null (dk dt_X5_formula 48 rfl) ?_
    exact j_areturn (dk dt_X5_formula 49 rfl) rfl rfl ⟨_, _, rfl, rfl, hw, H⟩
def F_X5_formula_66  (t0 : Nat) (z : Z) (c : Nat) (s : Nat) (P : Option Nat → Z → Prop) : Prop :=
  (zK z t0 = 6 ∧ (if zI z t0 10 ≤ 60 then F_X5_formula_84 t0 z c s P else F_X5_fail t0 5 (zI z t0 3) z (fun z_81 => F_X5_formula_84 t0 z_81 c s P)))
theorem T_X5_formula_66  {t0 : Nat} {z : Z} {c : Nat} {s : Nat} {P : Option Nat → Z → Prop}  (hw : Wz z)   (H : F_X5_formula_66 t0 z c s P) : J mX5_formula 411 c s (nx (QZA P)) 66 [some (vr (some t0)), none, none, none] [] (cz z) := by
  unfold F_X5_formula_66 at H
  refine j_aload_n (dk dt_X5_formula 36 rfl) rfl ?_
  obtain ⟨k_67, H⟩ := H
  refine jz_getI (kz := 10) (dk dt_X5_formula 37 rfl) fl_X5_109 rfl rfl rfl k_67 ?_
  refine j_bipush (v := Int32.ofInt 60) (dk dt_X5_formula 38 rfl) (by decide) ?_
  refine jz_icmp_le 84 (dk dt_X5_formula 39 rfl) (by decide) (hw.1 _ _) (by decide) H (fun H => ?_) (fun H => ?_)
  · exact j_el (T_X5_formula_84  hw   H) (And.intro rfl trivial)
  · refine j_aload_n (dk dt_X5_formula 40 rfl) rfl ?_
    refine j_iconst (v := Int32.ofInt 5) (dk dt_X5_formula 41 rfl) (by decide) ?_
    refine j_aload_n (dk dt_X5_formula 42 rfl) rfl ?_
    refine jz_getI (kz := 3) (dk dt_X5_formula 43 rfl) fl_X5_24 rfl rfl rfl k_67 ?_
    refine jz_callV2 (dk dt_X5_formula 44 rfl) vl_X5_62 rfl (T_X5_fail (by decide) (hw.1 _ _) hw H) k_67 rfl (by decide) (Nat.zero_le _) (Nat.zero_le _) (Nat.le_of_ble_eq_true rfl) (fun v_81 h_81 P_81 => ?_)
    obtain ⟨z_81, rfl, rfl, w_81, H⟩ := P_81
    dsimp only [rs]
    exact j_el (T_X5_formula_84  w_81   H) (And.intro rfl trivial)
def F_X5_formula_47  (t0 : Nat) (z : Z) (c : Nat) (s : Nat) (P : Option Nat → Z → Prop) : Prop :=
  (zK z t0 = 6 ∧ (if zI z t0 6 = 0 then F_X5_formula_66 t0 z c s P else F_X5_fail t0 (zI z t0 6) (zI z t0 7) z (fun z_63 => F_X5_formula_66 t0 z_63 c s P)))
theorem T_X5_formula_47  {t0 : Nat} {z : Z} {c : Nat} {s : Nat} {P : Option Nat → Z → Prop}  (hw : Wz z)   (H : F_X5_formula_47 t0 z c s P) : J mX5_formula 411 c s (nx (QZA P)) 47 [some (vr (some t0)), none, none, none] [] (cz z) := by
  unfold F_X5_formula_47 at H
  refine j_aload_n (dk dt_X5_formula 27 rfl) rfl ?_
  obtain ⟨k_48, H⟩ := H
  refine jz_getI (kz := 6) (dk dt_X5_formula 28 rfl) fl_X5_52 rfl rfl rfl k_48 ?_
  refine jz_if_eq 66 (dk dt_X5_formula 29 rfl) (by decide) (hw.1 _ _) H (fun H => ?_) (fun H => ?_)
  · exact j_el (T_X5_formula_66  hw   H) (And.intro rfl trivial)
  · refine j_aload_n (dk dt_X5_formula 30 rfl) rfl ?_
    refine j_aload_n (dk dt_X5_formula 31 rfl) rfl ?_
    refine jz_getI (kz := 6) (dk dt_X5_formula 32 rfl) fl_X5_52 rfl rfl rfl k_48 ?_
    refine j_aload_n (dk dt_X5_formula 33 rfl) rfl ?_
    refine jz_getI (kz := 7) (dk dt_X5_formula 34 rfl) fl_X5_55 rfl rfl rfl k_48 ?_
    refine jz_callV2 (dk dt_X5_formula 35 rfl) vl_X5_62 rfl (T_X5_fail (hw.1 _ _) (hw.1 _ _) hw H) k_48 rfl (by decide) (Nat.zero_le _) (Nat.zero_le _) (Nat.le_of_ble_eq_true rfl) (fun v_63 h_63 P_63 => ?_)
    obtain ⟨z_63, rfl, rfl, w_63, H⟩ := P_63
    dsimp only [rs]
    exact j_el (T_X5_formula_66  w_63   H) (And.intro rfl trivial)
def F_X5_formula  (t0 : Nat) (x1 : Int) (z : Z) (c : Nat) (s : Nat) (P : Option Nat → Z → Prop) : Prop :=
  (zK z t0 = 6 ∧ (∀ z_2, z_2 = wI z t0 6 0 → (∀ z_7, z_7 = wI z_2 t0 10 0 → (∀ z_14, z_14 = wI z_7 t0 9 (w32 (x1 + 1)) → (∃ c_20 s_20, c_20 ≤ c ∧ s_20 ≤ s ∧ (∃ n_20, n_20 ≤ 400 ∧ F_X5_expression n_20 t0 1 0 z_14 c_20 s_20 (fun z_20 => (zK z_20 t0 = 6 ∧ F_X5_skipBlanks t0 z_20 (fun z_24 => (zK z_24 t0 = 6 ∧ (if zI z_24 t0 8 ≤ zI z_24 t0 9 then F_X5_formula_47 t0 z_24 (c - c_20) (s - s_20) P else F_X5_fail t0 1 (zI z_24 t0 9) z_24 (fun z_44 => F_X5_formula_47 t0 z_44 (c - c_20) (s - s_20) P))))))))))))
theorem T_X5_formula  {t0 : Nat} {x1 : Int} {z : Z} {c : Nat} {s : Nat} {P : Option Nat → Z → Prop} (r_x1 : R32 x1) (hw : Wz z)  (H : F_X5_formula t0 x1 z c s P) : Con mX5_formula 411 c s [vr (some t0), ii (x1)] (cz z) (QZA P) := by
  refine con_of rfl (Nat.le_of_ble_eq_true rfl) (by decide) ?_
  show J mX5_formula 411 c s _ 0 [some (vr (some t0)), some (ii (x1)), none, none] [] (cz z)
  unfold F_X5_formula at H
  refine j_aload_n (dk dt_X5_formula 0 rfl) rfl ?_
  refine j_iconst (v := Int32.ofInt 0) (dk dt_X5_formula 1 rfl) (by decide) ?_
  obtain ⟨k_2, H⟩ := H
  refine jz_putI (kz := 6) (dk dt_X5_formula 2 rfl) fl_X5_52 rfl rfl rfl rfl rfl k_2 hw (by decide) (fun w_2 => ?_)
  replace H := H _ rfl
  refine j_aload_n (dk dt_X5_formula 3 rfl) rfl ?_
  refine j_iconst (v := Int32.ofInt 0) (dk dt_X5_formula 4 rfl) (by decide) ?_
  refine jz_putI (kz := 10) (dk dt_X5_formula 5 rfl) fl_X5_109 rfl rfl rfl rfl rfl k_2 w_2 (by decide) (fun w_7 => ?_)
  replace H := H _ rfl
  refine j_aload_n (dk dt_X5_formula 6 rfl) rfl ?_
  refine j_iload_n (dk dt_X5_formula 7 rfl) rfl ?_
  refine j_iconst (v := Int32.ofInt 1) (dk dt_X5_formula 8 rfl) (by decide) ?_
  refine jz_iadd (dk dt_X5_formula 9 rfl) ?_
  refine jz_putI (kz := 9) (dk dt_X5_formula 10 rfl) fl_X5_112 rfl rfl rfl rfl rfl k_2 w_7 (r32_w _) (fun w_14 => ?_)
  replace H := H _ rfl
  refine j_aload_n (dk dt_X5_formula 11 rfl) rfl ?_
  refine j_iconst (v := Int32.ofInt 1) (dk dt_X5_formula 12 rfl) (by decide) ?_
  refine j_iconst (v := Int32.ofInt 0) (dk dt_X5_formula 13 rfl) (by decide) ?_
  obtain ⟨c_20, s_20, hc_20, hs_20, H⟩ := H
  obtain ⟨n_20, hn_20, H⟩ := H
  refine jz_callV2 (dk dt_X5_formula 14 rfl) vl_X5_115 rfl (T_X5_expression (n := n_20) (by decide) (by decide) w_14 H) k_2 rfl (by omega) hc_20 hs_20 (Nat.le_of_ble_eq_true rfl) (fun v_20 h_20 P_20 => ?_)
  obtain ⟨z_20, rfl, rfl, w_20, H⟩ := P_20
  dsimp only [rs]
  refine j_aload_n (dk dt_X5_formula 15 rfl) rfl ?_
  obtain ⟨k_24, H⟩ := H
  refine jz_callV0 (dk dt_X5_formula 16 rfl) vl_X5_118 rfl (T_X5_skipBlanks w_20 H) k_24 rfl (by decide) (Nat.zero_le _) (Nat.zero_le _) (Nat.le_of_ble_eq_true rfl) (fun v_24 h_24 P_24 => ?_)
  obtain ⟨z_24, rfl, rfl, w_24, H⟩ := P_24
  dsimp only [rs]
  refine j_aload_n (dk dt_X5_formula 17 rfl) rfl ?_
  obtain ⟨k_28, H⟩ := H
  refine jz_getI (kz := 9) (dk dt_X5_formula 18 rfl) fl_X5_112 rfl rfl rfl k_28 ?_
  refine j_aload_n (dk dt_X5_formula 19 rfl) rfl ?_
  refine jz_getI (kz := 8) (dk dt_X5_formula 20 rfl) fl_X5_42 rfl rfl rfl k_28 ?_
  refine jz_icmp_ge 47 (dk dt_X5_formula 21 rfl) (by decide) (w_24.1 _ _) (w_24.1 _ _) H (fun H => ?_) (fun H => ?_)
  · exact j_el (T_X5_formula_47  w_24   H) (And.intro rfl trivial)
  · refine j_aload_n (dk dt_X5_formula 22 rfl) rfl ?_
    refine j_iconst (v := Int32.ofInt 1) (dk dt_X5_formula 23 rfl) (by decide) ?_
    refine j_aload_n (dk dt_X5_formula 24 rfl) rfl ?_
    refine jz_getI (kz := 9) (dk dt_X5_formula 25 rfl) fl_X5_112 rfl rfl rfl k_28 ?_
    refine jz_callV2 (dk dt_X5_formula 26 rfl) vl_X5_62 rfl (T_X5_fail (by decide) (w_24.1 _ _) w_24 H) k_28 rfl (by decide) (Nat.zero_le _) (Nat.zero_le _) (Nat.le_of_ble_eq_true rfl) (fun v_44 h_44 P_44 => ?_)
    obtain ⟨z_44, rfl, rfl, w_44, H⟩ := P_44
    dsimp only [rs]
    exact j_el (T_X5_formula_47  w_44   H) (And.intro rfl trivial)
def F_X5_numberOf_49  (t0 : Nat) (x1 : Int) (x4 : Int) (s0 : Int) (z : Z) (P : (Int × Int) ⊕ ((Int)) → Prop) : Prop :=
  P (.inl (s0, w32 (x4 + 1)))
theorem T_X5_numberOf_49  {t0 : Nat} {x1 : Int} {x4 : Int} {s0 : Int} {z : Z} {P : (Int × Int) ⊕ ((Int)) → Prop} {post : Option Sv ⊕ String → Hp → Prop} (r_x1 : R32 x1) (r_x4 : R32 x4) (r_s0 : R64 s0) (hw : Wz z)  (hl : ∀ (x2 : Int) (x4 : Int), P (.inl (x2, x4)) → R64 x2 → R32 x4 → J mX5_numberOf 2 0 0 post 5 [some (vr (some t0)), some (ii (x1)), some (ll (x2)), none, some (ii (x4))] [] (cz z)) (he0 : ∀ (x2 : Int), P (.inr x2) → R64 x2 → J mX5_numberOf 2 0 0 post 56 [some (vr (some t0)), some (ii (x1)), some (ll (x2)), none, none] [] (cz z)) (H : F_X5_numberOf_49 t0 x1 x4 s0 z P) : J mX5_numberOf 2 0 0 (post) 49 [some (vr (some t0)), some (ii (x1)), none, none, some (ii (x4))] [ll (s0)] (cz z) := by
  unfold F_X5_numberOf_49 at H
  refine j_lstore_n (dk dt_X5_numberOf 27 rfl) (by decide) ?_
  refine jz_iinc (dk dt_X5_numberOf 28 rfl) rfl ?_
  refine j_goto 5 (dk dt_X5_numberOf 29 rfl) (by decide) ?_
  exact j_el (hl _ _ H r_s0 (r32_w _)) (And.intro rfl (And.intro rfl (And.intro rfl (And.intro rfl trivial))))
def L_X5_numberOf_5  (t0 : Nat) (x1 : Int) (x2 : Int) (x4 : Int) (z : Z) (P : (Int × Int) ⊕ ((Int)) → Prop) : Prop :=
  (zK z t0 = 6 ∧ (if zI z t0 8 ≤ x4 then P (.inr x2) else (∃ a_20, zO z t0 0 = some a_20 ∧ zK z a_20 = 14 ∧ (0 ≤ x4 ∧ x4 < zN z a_20 ∧ F_X11_isDigit (zI z a_20 x4) (fun x_21 => (if x_21 = 0 then F_X5_numberOf_49 t0 x1 x4 x2 z P else F_X5_numberOf_49 t0 x1 x4 (w64 ((w64 ((w64 (x2 * 10)) + (zI z a_20 x4))) - 48)) z P))))))
theorem U_X5_numberOf_5  {t0 : Nat} {x1 : Int} {x2 : Int} {x4 : Int} {z : Z} {P : (Int × Int) ⊕ ((Int)) → Prop} {post : Option Sv ⊕ String → Hp → Prop} (r_x1 : R32 x1) (r_x2 : R64 x2) (r_x4 : R32 x4) (hw : Wz z)  (hl : ∀ (x2 : Int) (x4 : Int), P (.inl (x2, x4)) → R64 x2 → R32 x4 → J mX5_numberOf 2 0 0 post 5 [some (vr (some t0)), some (ii (x1)), some (ll (x2)), none, some (ii (x4))] [] (cz z)) (he0 : ∀ (x2 : Int), P (.inr x2) → R64 x2 → J mX5_numberOf 2 0 0 post 56 [some (vr (some t0)), some (ii (x1)), some (ll (x2)), none, none] [] (cz z)) (H : L_X5_numberOf_5 t0 x1 x2 x4 z P) : J mX5_numberOf 2 0 0 post 5 [some (vr (some t0)), some (ii (x1)), some (ll (x2)), none, some (ii (x4))] [] (cz z) := by
  unfold L_X5_numberOf_5 at H
  refine j_iload (dk dt_X5_numberOf 4 rfl) rfl ?_
  refine j_aload_n (dk dt_X5_numberOf 5 rfl) rfl ?_
  obtain ⟨k_8, H⟩ := H
  refine jz_getI (kz := 8) (dk dt_X5_numberOf 6 rfl) fl_X5_42 rfl rfl rfl k_8 ?_
  refine jz_icmp_ge 56 (dk dt_X5_numberOf 7 rfl) (by decide) r_x4 (hw.1 _ _) H (fun H => ?_) (fun H => ?_)
  · exact j_el (he0 _ H r_x2) (And.intro rfl (And.intro rfl (And.intro rfl trivial)))
  · refine j_aload_n (dk dt_X5_numberOf 8 rfl) rfl ?_
    refine jz_getO (kz := 0) (dk dt_X5_numberOf 9 rfl) fl_X5_9 rfl rfl rfl k_8 ?_
    refine j_iload (dk dt_X5_numberOf 10 rfl) rfl ?_
    obtain ⟨a_20, e_20, k_20, H⟩ := H
    obtain ⟨p_20, q_20, H⟩ := H
    refine jz_bald (dk dt_X5_numberOf 11 rfl) e_20 k_20 p_20 q_20 hw ?_
    refine j_callSN1 (dk dt_X5_numberOf 12 rfl) snl_X5_102 (T_X11_isDigit (hw.1 _ _) H) rfl (by decide) (Nat.zero_le _) (Nat.zero_le _) (Nat.le_of_ble_eq_true rfl) (fun v_21 h_21 P_21 => ?_)
    obtain ⟨x_21, rfl, r_21, rfl, H⟩ := P_21
    dsimp only [rs]
    refine jz_if_eq 48 (dk dt_X5_numberOf 13 rfl) (by decide) r_21 H (fun H => ?_) (fun H => ?_)
    · refine j_lload_n (dk dt_X5_numberOf 26 rfl) rfl ?_
      exact j_el (T_X5_numberOf_49 r_x1 r_x4 r_x2 hw  hl he0 H) (And.intro rfl (And.intro rfl (And.intro rfl trivial)))
    · refine j_lload_n (dk dt_X5_numberOf 14 rfl) rfl ?_
      refine j_ldc2 (v := Int64.ofInt (10)) (dk dt_X5_numberOf 15 rfl) (by exact kl_X5_105) ?_
      refine jz_lmul (dk dt_X5_numberOf 16 rfl) ?_
      refine j_aload_n (dk dt_X5_numberOf 17 rfl) rfl ?_
      refine jz_getO (kz := 0) (dk dt_X5_numberOf 18 rfl) fl_X5_9 rfl rfl rfl k_8 ?_
      refine j_iload (dk dt_X5_numberOf 19 rfl) rfl ?_
      refine jz_bald (dk dt_X5_numberOf 20 rfl) e_20 k_20 p_20 q_20 hw ?_
      refine jz_i2l (dk dt_X5_numberOf 21 rfl) (hw.1 _ _) ?_
      refine jz_ladd (dk dt_X5_numberOf 22 rfl) ?_
      refine j_ldc2 (v := Int64.ofInt (48)) (dk dt_X5_numberOf 23 rfl) (by exact kl_X5_107) ?_
      refine jz_lsub (dk dt_X5_numberOf 24 rfl) ?_
      refine j_goto 49 (dk dt_X5_numberOf 25 rfl) (by decide) ?_
      exact j_el (T_X5_numberOf_49 r_x1 r_x4 (r64_w _) hw  hl he0 H) (And.intro rfl (And.intro rfl (And.intro rfl trivial)))
def F_X5_numberOf_73  (s0 : Int) (z : Z) (P : Int → Prop) : Prop :=
  P s0
theorem T_X5_numberOf_73  {s0 : Int} {z : Z} {P : Int → Prop} (r_s0 : R64 s0) (hw : Wz z)   (H : F_X5_numberOf_73 s0 z P) : J mX5_numberOf 2 0 0 (nx (QPJ (cz z) P)) 73 [none, none, none, none, none] [ll (s0)] (cz z) := by
  unfold F_X5_numberOf_73 at H
  exact j_lreturn (dk dt_X5_numberOf 40 rfl) rfl ⟨_, rfl, r_s0, rfl, H⟩
def F_X5_numberOf_5  (t0 : Nat) (x1 : Int) (x2 : Int) (x4 : Int) (z : Z) (P : Int → Prop) : Prop :=
  lp (S := Int × Int) (E := (Int)) (fun q P_ => L_X5_numberOf_5 t0 x1 q.1 q.2 z P_) (x2, x4) (fun (x2 : Int) => (zK z t0 = 6 ∧ (∃ a_61, zO z t0 0 = some a_61 ∧ zK z a_61 = 14 ∧ (0 ≤ x1 ∧ x1 < zN z a_61 ∧ (if zI z a_61 x1 = 45 then F_X5_numberOf_73 (w64 (-x2)) z P else F_X5_numberOf_73 x2 z P)))))
theorem T_X5_numberOf_5  {t0 : Nat} {x1 : Int} {x2 : Int} {x4 : Int} {z : Z} {P : Int → Prop} (r_x1 : R32 x1) (r_x2 : R64 x2) (r_x4 : R32 x4) (hw : Wz z)   (H : F_X5_numberOf_5 t0 x1 x2 x4 z P) : J mX5_numberOf 2 0 0 (nx (QPJ (cz z) P)) 5 [some (vr (some t0)), some (ii (x1)), some (ll (x2)), none, some (ii (x4))] [] (cz z) := by
  unfold F_X5_numberOf_5 at H
  refine lp_J (G := fun q => R64 (q.1) → R32 (q.2) → J mX5_numberOf 2 0 0 (nx (QPJ (cz z) P)) 5 [some (vr (some t0)), some (ii (x1)), some (ll ((q.1))), none, some (ii ((q.2)))] [] (cz z)) (fun q P_ hl_ he_ Hb => ?_) (x2, x4) H r_x2 r_x4
  obtain ⟨x2, x4⟩ := q
  intro r_x2 r_x4
  refine U_X5_numberOf_5 (P := P_) r_x1 r_x2 r_x4 hw  (fun x2 x4 Hp r_x2 r_x4 => hl_ (x2, x4) Hp r_x2 r_x4) ?_ Hb
  · intro x2 Hp r_x2
    have H := he_ _ Hp
    refine j_aload_n (dk dt_X5_numberOf 30 rfl) rfl ?_
    obtain ⟨k_57, H⟩ := H
    refine jz_getO (kz := 0) (dk dt_X5_numberOf 31 rfl) fl_X5_9 rfl rfl rfl k_57 ?_
    refine j_iload_n (dk dt_X5_numberOf 32 rfl) rfl ?_
    obtain ⟨a_61, e_61, k_61, H⟩ := H
    obtain ⟨p_61, q_61, H⟩ := H
    refine jz_bald (dk dt_X5_numberOf 33 rfl) e_61 k_61 p_61 q_61 hw ?_
    refine j_bipush (v := Int32.ofInt 45) (dk dt_X5_numberOf 34 rfl) (by decide) ?_
    refine jz_icmp_ne 72 (dk dt_X5_numberOf 35 rfl) (by decide) (hw.1 _ _) (by decide) H (fun H => ?_) (fun H => ?_)
    · refine j_lload_n (dk dt_X5_numberOf 36 rfl) rfl ?_
      refine jz_lneg (dk dt_X5_numberOf 37 rfl) ?_
      refine j_goto 73 (dk dt_X5_numberOf 38 rfl) (by decide) ?_
      exact j_el (T_X5_numberOf_73 (r64_w _) hw   H) trivial
    · refine j_lload_n (dk dt_X5_numberOf 39 rfl) rfl ?_
      exact j_el (T_X5_numberOf_73 r_x2 hw   H) trivial
def F_X5_numberOf  (t0 : Nat) (x1 : Int) (z : Z) (P : Int → Prop) : Prop :=
  F_X5_numberOf_5 t0 x1 0 x1 z P
theorem T_X5_numberOf  {t0 : Nat} {x1 : Int} {z : Z} {P : Int → Prop} (r_x1 : R32 x1) (hw : Wz z)  (H : F_X5_numberOf t0 x1 z P) : Con mX5_numberOf 2 0 0 [vr (some t0), ii (x1)] (cz z) (QPJ (cz z) P) := by
  refine con_of rfl (Nat.le_of_ble_eq_true rfl) (by decide) ?_
  show J mX5_numberOf 2 0 0 _ 0 [some (vr (some t0)), some (ii (x1)), none, none, none] [] (cz z)
  unfold F_X5_numberOf at H
  refine j_lconst (v := Int64.ofInt 0) (dk dt_X5_numberOf 0 rfl) (by decide) ?_
  refine j_lstore_n (dk dt_X5_numberOf 1 rfl) (by decide) ?_
  refine j_iload_n (dk dt_X5_numberOf 2 rfl) rfl ?_
  refine j_istore (dk dt_X5_numberOf 3 rfl) (by decide) ?_
  exact j_el (T_X5_numberOf_5 r_x1 (by decide) r_x1 hw   H) (And.intro rfl (And.intro rfl (And.intro rfl (And.intro rfl trivial))))
def L_X5_plain_2  (t0 : Nat) (x1 : Int) (x2 : Int) (z : Z) (c : Nat) (s : Nat) (P : Int ⊕ ((Unit) ⊕ (Int)) → Prop) : Prop :=
  (zK z t0 = 6 ∧ (if zI z t0 3 ≤ x2 then P (.inr (.inl ())) else (∃ a_15, zO z t0 0 = some a_15 ∧ zK z a_15 = 14 ∧ (0 ≤ x2 ∧ x2 < zN z a_15 ∧ F_X11_isPlain (zI z a_15 x2) (fun x_16 => (if x_16 = 0 then P (.inr (.inr x2)) else P (.inl (w32 (x2 + 1)))))))))
theorem U_X5_plain_2  {t0 : Nat} {x1 : Int} {x2 : Int} {z : Z} {c : Nat} {s : Nat} {P : Int ⊕ ((Unit) ⊕ (Int)) → Prop} {post : Option Sv ⊕ String → Hp → Prop} (r_x1 : R32 x1) (r_x2 : R32 x2) (hw : Wz z)  (hl : ∀ (x2 : Int), P (.inl x2) → R32 x2 → J mX5_plain 9 c s post 2 [some (vr (some t0)), some (ii (x1)), some (ii (x2)), none] [] (cz z)) (he0 : P (.inr (.inl ())) → J mX5_plain 9 c s post 36 [some (vr (some t0)), some (ii (x1)), none, none] [] (cz z)) (he1 : ∀ (x2 : Int), P (.inr (.inr x2)) → R32 x2 → J mX5_plain 9 c s post 22 [some (vr (some t0)), none, some (ii (x2)), none] [] (cz z)) (H : L_X5_plain_2 t0 x1 x2 z c s P) : J mX5_plain 9 c s post 2 [some (vr (some t0)), some (ii (x1)), some (ii (x2)), none] [] (cz z) := by
  unfold L_X5_plain_2 at H
  refine j_iload_n (dk dt_X5_plain 2 rfl) rfl ?_
  refine j_aload_n (dk dt_X5_plain 3 rfl) rfl ?_
  obtain ⟨k_4, H⟩ := H
  refine jz_getI (kz := 3) (dk dt_X5_plain 4 rfl) fl_X5_24 rfl rfl rfl k_4 ?_
  refine jz_icmp_ge 36 (dk dt_X5_plain 5 rfl) (by decide) r_x2 (hw.1 _ _) H (fun H => ?_) (fun H => ?_)
  · exact j_el (he0  H ) (And.intro rfl (And.intro rfl trivial))
  · refine j_aload_n (dk dt_X5_plain 6 rfl) rfl ?_
    refine jz_getO (kz := 0) (dk dt_X5_plain 7 rfl) fl_X5_9 rfl rfl rfl k_4 ?_
    refine j_iload_n (dk dt_X5_plain 8 rfl) rfl ?_
    obtain ⟨a_15, e_15, k_15, H⟩ := H
    obtain ⟨p_15, q_15, H⟩ := H
    refine jz_bald (dk dt_X5_plain 9 rfl) e_15 k_15 p_15 q_15 hw ?_
    refine j_callSN1 (dk dt_X5_plain 10 rfl) snl_X5_58 (T_X11_isPlain (hw.1 _ _) H) rfl (by decide) (Nat.zero_le _) (Nat.zero_le _) (Nat.le_of_ble_eq_true rfl) (fun v_16 h_16 P_16 => ?_)
    obtain ⟨x_16, rfl, r_16, rfl, H⟩ := P_16
    dsimp only [rs]
    refine jz_if_ne 30 (dk dt_X5_plain 11 rfl) (by decide) r_16 H (fun H => ?_) (fun H => ?_)
    · exact j_el (he1 _ H r_x2) (And.intro rfl (And.intro rfl trivial))
    · refine jz_iinc (dk dt_X5_plain 18 rfl) rfl ?_
      refine j_goto 2 (dk dt_X5_plain 19 rfl) (by decide) ?_
      exact j_el (hl _ H (r32_w _)) (And.intro rfl (And.intro rfl (And.intro rfl trivial)))
def F_X5_plain_169  (t0 : Nat) (x2 : Option Nat) (z : Z) (c : Nat) (s : Nat) (P : Option Nat → Z → Prop) : Prop :=
  (1 ≤ c ∧ 3 ≤ s ∧ ∀ a_169, zK z a_169 = 0 → (∀ z_169, z_169 = nZ z a_169 2 0 → (∃ a_174, x2 = some a_174 ∧ zK z_169 a_174 = 9 ∧ (zK z_169 t0 = 6 ∧ F_X1_init a_169 (zI z_169 a_174 1) x2 (zO z_169 t0 2) z_169 (fun z_182 => P (some a_169) z_182)))))
theorem T_X5_plain_169  {t0 : Nat} {x2 : Option Nat} {z : Z} {c : Nat} {s : Nat} {P : Option Nat → Z → Prop}  (hw : Wz z)   (H : F_X5_plain_169 t0 x2 z c s P) : J mX5_plain 9 c s (nx (QZA P)) 169 [some (vr (some t0)), none, some (vr (x2)), none] [] (cz z) := by
  unfold F_X5_plain_169 at H
  obtain ⟨hc_169, hs_169, H⟩ := H
  refine jz_new (dk dt_X5_plain 93 rfl) cl_1 nl_X5_94 iw_1 zw_1 rfl hc_169 hs_169 hw (fun a_169 e_169 w_169 => ?_)
  replace H := H a_169 e_169
  replace H := H _ rfl
  refine j_dup (dk dt_X5_plain 94 rfl) rfl ?_
  refine j_aload_n (dk dt_X5_plain 95 rfl) rfl ?_
  obtain ⟨a_174, e_174, k_174, H⟩ := H
  refine jz_getI (kz := 1) (dk dt_X5_plain 96 rfl) fl_X5_96 rfl rfl e_174 k_174 ?_
  refine j_aload_n (dk dt_X5_plain 97 rfl) rfl ?_
  refine j_aload_n (dk dt_X5_plain 98 rfl) rfl ?_
  obtain ⟨k_179, H⟩ := H
  refine jz_getO (kz := 2) (dk dt_X5_plain 99 rfl) fl_X5_21 rfl rfl rfl k_179 ?_
  refine jz_callI3 (dk dt_X5_plain 100 rfl) il_X5_99 rfl (T_X1_init (w_169.1 _ _) w_169 H) rfl (by decide) (Nat.zero_le _) (Nat.zero_le _) (Nat.le_of_ble_eq_true rfl) (fun v_182 h_182 P_182 => ?_)
  obtain ⟨z_182, rfl, rfl, w_182, H⟩ := P_182
  dsimp only [rs]
  exact j_areturn (dk dt_X5_plain 101 rfl) rfl rfl ⟨_, _, rfl, rfl, w_182, H⟩
def F_X5_plain_130  (t0 : Nat) (x2 : Option Nat) (s0 : Int) (z : Z) (c : Nat) (s : Nat) (P : Option Nat → Z → Prop) : Prop :=
  (zK z t0 = 6 ∧ (if w32 ((zI z t0 8) - s0) ≤ 24 then (∃ a_166, x2 = some a_166 ∧ zK z a_166 = 9 ∧ F_X8_setBytes a_166 (zO z t0 0) s0 (w32 ((zI z t0 8) - s0)) z (fun z_166 => F_X5_plain_169 t0 x2 z_166 c s P)) else F_X5_fail t0 6 (w32 (s0 + 24)) z (fun z_149 => P none z_149)))
theorem T_X5_plain_130  {t0 : Nat} {x2 : Option Nat} {s0 : Int} {z : Z} {c : Nat} {s : Nat} {P : Option Nat → Z → Prop} (r_s0 : R32 s0) (hw : Wz z)   (H : F_X5_plain_130 t0 x2 s0 z c s P) : J mX5_plain 9 c s (nx (QZA P)) 130 [some (vr (some t0)), none, some (vr (x2)), none] [ii (s0)] (cz z) := by
  unfold F_X5_plain_130 at H
  refine j_istore_n (dk dt_X5_plain 69 rfl) (by decide) ?_
  refine j_aload_n (dk dt_X5_plain 70 rfl) rfl ?_
  obtain ⟨k_132, H⟩ := H
  refine jz_getI (kz := 8) (dk dt_X5_plain 71 rfl) fl_X5_42 rfl rfl rfl k_132 ?_
  refine j_iload_n (dk dt_X5_plain 72 rfl) rfl ?_
  refine jz_isub (dk dt_X5_plain 73 rfl) ?_
  refine j_bipush (v := Int32.ofInt 24) (dk dt_X5_plain 74 rfl) (by decide) ?_
  refine jz_icmp_le 154 (dk dt_X5_plain 75 rfl) (by decide) (r32_w _) (by decide) H (fun H => ?_) (fun H => ?_)
  · refine j_aload_n (dk dt_X5_plain 84 rfl) rfl ?_
    refine j_aload_n (dk dt_X5_plain 85 rfl) rfl ?_
    refine jz_getO (kz := 0) (dk dt_X5_plain 86 rfl) fl_X5_9 rfl rfl rfl k_132 ?_
    refine j_iload_n (dk dt_X5_plain 87 rfl) rfl ?_
    refine j_aload_n (dk dt_X5_plain 88 rfl) rfl ?_
    refine jz_getI (kz := 8) (dk dt_X5_plain 89 rfl) fl_X5_42 rfl rfl rfl k_132 ?_
    refine j_iload_n (dk dt_X5_plain 90 rfl) rfl ?_
    refine jz_isub (dk dt_X5_plain 91 rfl) ?_
    obtain ⟨a_166, e_166, k_166, H⟩ := H
    refine jz_callV3 (dk dt_X5_plain 92 rfl) vl_X5_90 e_166 (T_X8_setBytes r_s0 (r32_w _) hw H) k_166 rfl (by decide) (Nat.zero_le _) (Nat.zero_le _) (Nat.le_of_ble_eq_true rfl) (fun v_166 h_166 P_166 => ?_)
    obtain ⟨z_166, rfl, rfl, w_166, H⟩ := P_166
    dsimp only [rs]
    exact j_el (T_X5_plain_169  w_166   H) (And.intro rfl (And.intro rfl trivial))
  · refine j_aload_n (dk dt_X5_plain 76 rfl) rfl ?_
    refine j_bipush (v := Int32.ofInt 6) (dk dt_X5_plain 77 rfl) (by decide) ?_
    refine j_iload_n (dk dt_X5_plain 78 rfl) rfl ?_
    refine j_bipush (v := Int32.ofInt 24) (dk dt_X5_plain 79 rfl) (by decide) ?_
    refine jz_iadd (dk dt_X5_plain 80 rfl) ?_
    refine jz_callV2 (dk dt_X5_plain 81 rfl) vl_X5_62 rfl (T_X5_fail (by decide) (r32_w _) hw H) k_132 rfl (by decide) (Nat.zero_le _) (Nat.zero_le _) (Nat.le_of_ble_eq_true rfl) (fun v_149 h_149 P_149 => ?_)
    obtain ⟨z_149, rfl, rfl, w_149, H⟩ := P_149
    dsimp only [rs]
    refine j_null (dk dt_X5_plain 82 rfl) ?_
    exact j_areturn (dk dt_X5_plain 83 rfl) rfl rfl ⟨_, _, rfl, rfl, w_149, H⟩
def F_X5_plain_106  (t0 : Nat) (x2 : Option Nat) (s0 : Option Nat) (s1 : Int) (z : Z) (c : Nat) (s : Nat) (P : Option Nat → Z → Prop) : Prop :=
  (∃ a_106, s0 = some a_106 ∧ zK z a_106 = 9 ∧ F_X8_setTruth a_106 s1 z (fun z_106 => F_X5_plain_169 t0 x2 z_106 c s P))
theorem T_X5_plain_106  {t0 : Nat} {x2 : Option Nat} {s0 : Option Nat} {s1 : Int} {z : Z} {c : Nat} {s : Nat} {P : Option Nat → Z → Prop} (r_s1 : R32 s1) (hw : Wz z)   (H : F_X5_plain_106 t0 x2 s0 s1 z c s P) : J mX5_plain 9 c s (nx (QZA P)) 106 [some (vr (some t0)), none, some (vr (x2)), none] [ii (s1), vr (s0)] (cz z) := by
  unfold F_X5_plain_106 at H
  obtain ⟨a_106, e_106, k_106, H⟩ := H
  refine jz_callV1 (dk dt_X5_plain 56 rfl) vl_X5_86 e_106 (T_X8_setTruth r_s1 hw H) k_106 rfl (by decide) (Nat.zero_le _) (Nat.zero_le _) (Nat.le_of_ble_eq_true rfl) (fun v_106 h_106 P_106 => ?_)
  obtain ⟨z_106, rfl, rfl, w_106, H⟩ := P_106
  dsimp only [rs]
  refine j_goto 169 (dk dt_X5_plain 57 rfl) (by decide) ?_
  exact j_el (T_X5_plain_169  w_106   H) (And.intro rfl (And.intro rfl trivial))
def F_X5_plain_2  (t0 : Nat) (x1 : Int) (x2 : Int) (z : Z) (c : Nat) (s : Nat) (P : Option Nat → Z → Prop) : Prop :=
  lp (S := Int) (E := (Unit) ⊕ (Int)) (fun q P_ => L_X5_plain_2 t0 x1 q z c s P_) x2 (fun e => match e with | (.inl _) => (1 ≤ c ∧ 4 ≤ s ∧ ∀ a_36, zK z a_36 = 0 → (∀ z_36, z_36 = nZ z a_36 9 0 → (∃ c_42 s_42, c_42 ≤ c - 1 ∧ s_42 ≤ s - 4 ∧ F_X8_init a_36 24 z_36 c_42 s_42 (fun z_42 => (zK z_42 t0 = 6 ∧ F_X11_isNumber (zO z_42 t0 0) x1 (zI z_42 t0 8) z_42 (fun x_55 => (if x_55 = 0 then F_X11_isTruth (zO z_42 t0 0) x1 (zI z_42 t0 8) z_42 (fun x_83 => (if x_83 = 0 then (∃ a_117, zO z_42 t0 0 = some a_117 ∧ zK z_42 a_117 = 14 ∧ (0 ≤ x1 ∧ x1 < zN z_42 a_117 ∧ (if zI z_42 a_117 x1 = 39 then F_X5_plain_130 t0 (some a_36) (w32 (x1 + 1)) z_42 ((c - 1) - c_42) ((s - 4) - s_42) P else F_X5_plain_130 t0 (some a_36) x1 z_42 ((c - 1) - c_42) ((s - 4) - s_42) P))) else (∃ a_95, zO z_42 t0 0 = some a_95 ∧ zK z_42 a_95 = 14 ∧ (0 ≤ x1 ∧ x1 < zN z_42 a_95 ∧ (if zI z_42 a_95 x1 = 84 then F_X5_plain_106 t0 (some a_36) (some a_36) 1 z_42 ((c - 1) - c_42) ((s - 4) - s_42) P else F_X5_plain_106 t0 (some a_36) (some a_36) 0 z_42 ((c - 1) - c_42) ((s - 4) - s_42) P))))) else F_X5_numberOf t0 x1 z_42 (fun x_65 => (zK z_42 a_36 = 9 ∧ F_X8_set a_36 1 x_65 z_42 (fun z_68 => F_X5_plain_169 t0 (some a_36) z_68 ((c - 1) - c_42) ((s - 4) - s_42) P)))))))))) | (.inr x2) => (zK z t0 = 6 ∧ F_X5_fail t0 1 x2 z (fun z_25 => P none z_25)))
theorem T_X5_plain_2  {t0 : Nat} {x1 : Int} {x2 : Int} {z : Z} {c : Nat} {s : Nat} {P : Option Nat → Z → Prop} (r_x1 : R32 x1) (r_x2 : R32 x2) (hw : Wz z)   (H : F_X5_plain_2 t0 x1 x2 z c s P) : J mX5_plain 9 c s (nx (QZA P)) 2 [some (vr (some t0)), some (ii (x1)), some (ii (x2)), none] [] (cz z) := by
  unfold F_X5_plain_2 at H
  refine lp_J (G := fun q => R32 (q) → J mX5_plain 9 c s (nx (QZA P)) 2 [some (vr (some t0)), some (ii (x1)), some (ii ((q))), none] [] (cz z)) (fun x2 P_ hl_ he_ Hb => ?_) x2 H r_x2
  intro r_x2
  refine U_X5_plain_2 (P := P_) r_x1 r_x2 hw  (fun x2 Hp r_x2 => hl_ x2 Hp r_x2) ?_ ?_ Hb
  · intro Hp
    have H := he_ _ Hp
    obtain ⟨hc_36, hs_36, H⟩ := H
    refine jz_new (dk dt_X5_plain 20 rfl) cl_8 nl_X5_66 iw_8 zw_8 rfl hc_36 hs_36 hw (fun a_36 e_36 w_36 => ?_)
    replace H := H a_36 e_36
    replace H := H _ rfl
    refine j_dup (dk dt_X5_plain 21 rfl) rfl ?_
    refine j_bipush (v := Int32.ofInt 24) (dk dt_X5_plain 22 rfl) (by decide) ?_
    obtain ⟨c_42, s_42, hc_42, hs_42, H⟩ := H
    refine jz_callI1 (dk dt_X5_plain 23 rfl) il_X5_68 rfl (T_X8_init (by decide) w_36 H) rfl (by decide) hc_42 hs_42 (Nat.le_of_ble_eq_true rfl) (fun v_42 h_42 P_42 => ?_)
    obtain ⟨z_42, rfl, rfl, w_42, H⟩ := P_42
    dsimp only [rs]
    refine j_astore_n (dk dt_X5_plain 24 rfl) (by decide) ?_
    refine j_aload_n (dk dt_X5_plain 25 rfl) rfl ?_
    obtain ⟨k_47, H⟩ := H
    refine jz_getO (kz := 0) (dk dt_X5_plain 26 rfl) fl_X5_9 rfl rfl rfl k_47 ?_
    refine j_iload_n (dk dt_X5_plain 27 rfl) rfl ?_
    refine j_aload_n (dk dt_X5_plain 28 rfl) rfl ?_
    refine jz_getI (kz := 8) (dk dt_X5_plain 29 rfl) fl_X5_42 rfl rfl rfl k_47 ?_
    refine j_callSN3 (dk dt_X5_plain 30 rfl) snl_X5_71 (T_X11_isNumber r_x1 (w_42.1 _ _) w_42 H) rfl (by decide) (Nat.zero_le _) (Nat.zero_le _) (Nat.le_of_ble_eq_true rfl) (fun v_55 h_55 P_55 => ?_)
    obtain ⟨x_55, rfl, r_55, rfl, H⟩ := P_55
    dsimp only [rs]
    refine jz_if_eq 74 (dk dt_X5_plain 31 rfl) (by decide) r_55 H (fun H => ?_) (fun H => ?_)
    · refine j_aload_n (dk dt_X5_plain 39 rfl) rfl ?_
      refine jz_getO (kz := 0) (dk dt_X5_plain 40 rfl) fl_X5_9 rfl rfl rfl k_47 ?_
      refine j_iload_n (dk dt_X5_plain 41 rfl) rfl ?_
      refine j_aload_n (dk dt_X5_plain 42 rfl) rfl ?_
      refine jz_getI (kz := 8) (dk dt_X5_plain 43 rfl) fl_X5_42 rfl rfl rfl k_47 ?_
      refine j_callSN3 (dk dt_X5_plain 44 rfl) snl_X5_83 (T_X11_isTruth r_x1 (w_42.1 _ _) w_42 H) rfl (by decide) (Nat.zero_le _) (Nat.zero_le _) (Nat.le_of_ble_eq_true rfl) (fun v_83 h_83 P_83 => ?_)
      obtain ⟨x_83, rfl, r_83, rfl, H⟩ := P_83
      dsimp only [rs]
      refine jz_if_eq 112 (dk dt_X5_plain 45 rfl) (by decide) r_83 H (fun H => ?_) (fun H => ?_)
      · refine j_aload_n (dk dt_X5_plain 58 rfl) rfl ?_
        refine jz_getO (kz := 0) (dk dt_X5_plain 59 rfl) fl_X5_9 rfl rfl rfl k_47 ?_
        refine j_iload_n (dk dt_X5_plain 60 rfl) rfl ?_
        obtain ⟨a_117, e_117, k_117, H⟩ := H
        obtain ⟨p_117, q_117, H⟩ := H
        refine jz_bald (dk dt_X5_plain 61 rfl) e_117 k_117 p_117 q_117 w_42 ?_
        refine j_bipush (v := Int32.ofInt 39) (dk dt_X5_plain 62 rfl) (by decide) ?_
        refine jz_icmp_ne 129 (dk dt_X5_plain 63 rfl) (by decide) (w_42.1 _ _) (by decide) H (fun H => ?_) (fun H => ?_)
        · refine j_iload_n (dk dt_X5_plain 64 rfl) rfl ?_
          refine j_iconst (v := Int32.ofInt 1) (dk dt_X5_plain 65 rfl) (by decide) ?_
          refine jz_iadd (dk dt_X5_plain 66 rfl) ?_
          refine j_goto 130 (dk dt_X5_plain 67 rfl) (by decide) ?_
          exact j_el (T_X5_plain_130 (r32_w _) w_42   H) (And.intro rfl (And.intro rfl trivial))
        · refine j_iload_n (dk dt_X5_plain 68 rfl) rfl ?_
          exact j_el (T_X5_plain_130 r_x1 w_42   H) (And.intro rfl (And.intro rfl trivial))
      · refine j_aload_n (dk dt_X5_plain 46 rfl) rfl ?_
        refine j_aload_n (dk dt_X5_plain 47 rfl) rfl ?_
        refine jz_getO (kz := 0) (dk dt_X5_plain 48 rfl) fl_X5_9 rfl rfl rfl k_47 ?_
        refine j_iload_n (dk dt_X5_plain 49 rfl) rfl ?_
        obtain ⟨a_95, e_95, k_95, H⟩ := H
        obtain ⟨p_95, q_95, H⟩ := H
        refine jz_bald (dk dt_X5_plain 50 rfl) e_95 k_95 p_95 q_95 w_42 ?_
        refine j_bipush (v := Int32.ofInt 84) (dk dt_X5_plain 51 rfl) (by decide) ?_
        refine jz_icmp_ne 105 (dk dt_X5_plain 52 rfl) (by decide) (w_42.1 _ _) (by decide) H (fun H => ?_) (fun H => ?_)
        · refine j_iconst (v := Int32.ofInt 1) (dk dt_X5_plain 53 rfl) (by decide) ?_
          refine j_goto 106 (dk dt_X5_plain 54 rfl) (by decide) ?_
          exact j_el (T_X5_plain_106 (by decide) w_42   H) (And.intro rfl (And.intro rfl trivial))
        · refine j_iconst (v := Int32.ofInt 0) (dk dt_X5_plain 55 rfl) (by decide) ?_
          exact j_el (T_X5_plain_106 (by decide) w_42   H) (And.intro rfl (And.intro rfl trivial))
    · refine j_aload_n (dk dt_X5_plain 32 rfl) rfl ?_
      refine j_iconst (v := Int32.ofInt 1) (dk dt_X5_plain 33 rfl) (by decide) ?_
      refine j_aload_n (dk dt_X5_plain 34 rfl) rfl ?_
      refine j_iload_n (dk dt_X5_plain 35 rfl) rfl ?_
      refine jz_callV1 (dk dt_X5_plain 36 rfl) vl_X5_75 rfl (T_X5_numberOf r_x1 w_42 H) k_47 rfl (by decide) (Nat.zero_le _) (Nat.zero_le _) (Nat.le_of_ble_eq_true rfl) (fun v_65 h_65 P_65 => ?_)
      obtain ⟨x_65, rfl, r_65, rfl, H⟩ := P_65
      dsimp only [rs]
      obtain ⟨k_68, H⟩ := H
      refine jz_callV2 (dk dt_X5_plain 37 rfl) vl_X5_79 rfl (T_X8_set (by decide) r_65 w_42 H) k_68 rfl (by decide) (Nat.zero_le _) (Nat.zero_le _) (Nat.le_of_ble_eq_true rfl) (fun v_68 h_68 P_68 => ?_)
      obtain ⟨z_68, rfl, rfl, w_68, H⟩ := P_68
      dsimp only [rs]
      refine j_goto 169 (dk dt_X5_plain 38 rfl) (by decide) ?_
      exact j_el (T_X5_plain_169  w_68   H) (And.intro rfl (And.intro rfl trivial))
  · intro x2 Hp r_x2
    have H := he_ _ Hp
    refine j_aload_n (dk dt_X5_plain 12 rfl) rfl ?_
    refine j_iconst (v := Int32.ofInt 1) (dk dt_X5_plain 13 rfl) (by decide) ?_
    refine j_iload_n (dk dt_X5_plain 14 rfl) rfl ?_
    obtain ⟨k_25, H⟩ := H
    refine jz_callV2 (dk dt_X5_plain 15 rfl) vl_X5_62 rfl (T_X5_fail (by decide) r_x2 hw H) k_25 rfl (by decide) (Nat.zero_le _) (Nat.zero_le _) (Nat.le_of_ble_eq_true rfl) (fun v_25 h_25 P_25 => ?_)
    obtain ⟨z_25, rfl, rfl, w_25, H⟩ := P_25
    dsimp only [rs]
    refine j_null (dk dt_X5_plain 16 rfl) ?_
    exact j_areturn (dk dt_X5_plain 17 rfl) rfl rfl ⟨_, _, rfl, rfl, w_25, H⟩
def F_X5_plain  (t0 : Nat) (x1 : Int) (z : Z) (c : Nat) (s : Nat) (P : Option Nat → Z → Prop) : Prop :=
  F_X5_plain_2 t0 x1 0 z c s P
theorem T_X5_plain  {t0 : Nat} {x1 : Int} {z : Z} {c : Nat} {s : Nat} {P : Option Nat → Z → Prop} (r_x1 : R32 x1) (hw : Wz z)  (H : F_X5_plain t0 x1 z c s P) : Con mX5_plain 9 c s [vr (some t0), ii (x1)] (cz z) (QZA P) := by
  refine con_of rfl (Nat.le_of_ble_eq_true rfl) (by decide) ?_
  show J mX5_plain 9 c s _ 0 [some (vr (some t0)), some (ii (x1)), none, none] [] (cz z)
  unfold F_X5_plain at H
  refine j_iconst (v := Int32.ofInt 0) (dk dt_X5_plain 0 rfl) (by decide) ?_
  refine j_istore_n (dk dt_X5_plain 1 rfl) (by decide) ?_
  exact j_el (T_X5_plain_2 r_x1 (by decide) hw   H) (And.intro rfl (And.intro rfl (And.intro rfl trivial)))
def L_X5_read_22  (t0 : Nat) (x3 : Int) (z : Z) (c : Nat) (s : Nat) (P : Int ⊕ ((Int)) → Prop) : Prop :=
  (zK z t0 = 6 ∧ (if zI z t0 3 ≤ x3 then P (.inr x3) else (∃ a_35, zO z t0 0 = some a_35 ∧ zK z a_35 = 14 ∧ (0 ≤ x3 ∧ x3 < zN z a_35 ∧ (if zI z a_35 x3 = 32 then P (.inl (w32 (x3 + 1))) else P (.inr x3))))))
theorem U_X5_read_22  {t0 : Nat} {x3 : Int} {z : Z} {c : Nat} {s : Nat} {P : Int ⊕ ((Int)) → Prop} {post : Option Sv ⊕ String → Hp → Prop} (r_x3 : R32 x3) (hw : Wz z)  (hl : ∀ (x3 : Int), P (.inl x3) → R32 x3 → J mX5_read 412 c s post 22 [some (vr (some t0)), none, none, some (ii (x3)), none] [] (cz z)) (he0 : ∀ (x3 : Int), P (.inr x3) → R32 x3 → J mX5_read 412 c s post 47 [some (vr (some t0)), none, none, some (ii (x3)), none] [] (cz z)) (H : L_X5_read_22 t0 x3 z c s P) : J mX5_read 412 c s post 22 [some (vr (some t0)), none, none, some (ii (x3)), none] [] (cz z) := by
  unfold L_X5_read_22 at H
  refine j_iload_n (dk dt_X5_read 14 rfl) rfl ?_
  refine j_aload_n (dk dt_X5_read 15 rfl) rfl ?_
  obtain ⟨k_24, H⟩ := H
  refine jz_getI (kz := 3) (dk dt_X5_read 16 rfl) fl_X5_24 rfl rfl rfl k_24 ?_
  refine jz_icmp_ge 47 (dk dt_X5_read 17 rfl) (by decide) r_x3 (hw.1 _ _) H (fun H => ?_) (fun H => ?_)
  · exact j_el (he0 _ H r_x3) (And.intro rfl (And.intro rfl trivial))
  · refine j_aload_n (dk dt_X5_read 18 rfl) rfl ?_
    refine jz_getO (kz := 0) (dk dt_X5_read 19 rfl) fl_X5_9 rfl rfl rfl k_24 ?_
    refine j_iload_n (dk dt_X5_read 20 rfl) rfl ?_
    obtain ⟨a_35, e_35, k_35, H⟩ := H
    obtain ⟨p_35, q_35, H⟩ := H
    refine jz_bald (dk dt_X5_read 21 rfl) e_35 k_35 p_35 q_35 hw ?_
    refine j_bipush (v := Int32.ofInt 32) (dk dt_X5_read 22 rfl) (by decide) ?_
    refine jz_icmp_ne 47 (dk dt_X5_read 23 rfl) (by decide) (hw.1 _ _) (by decide) H (fun H => ?_) (fun H => ?_)
    · refine jz_iinc (dk dt_X5_read 24 rfl) rfl ?_
      refine j_goto 22 (dk dt_X5_read 25 rfl) (by decide) ?_
      exact j_el (hl _ H (r32_w _)) (And.intro rfl (And.intro rfl trivial))
    · exact j_el (he0 _ H r_x3) (And.intro rfl (And.intro rfl trivial))
def L_X5_read_55  (t0 : Nat) (x3 : Int) (z : Z) (c : Nat) (s : Nat) (P : Z ⊕ ((Z)) → Prop) : Prop :=
  (zK z t0 = 6 ∧ (if zI z t0 8 ≤ x3 then P (.inr z) else (∃ a_73, zO z t0 0 = some a_73 ∧ zK z a_73 = 14 ∧ (0 ≤ w32 ((zI z t0 8) - 1) ∧ w32 ((zI z t0 8) - 1) < zN z a_73 ∧ (if zI z a_73 (w32 ((zI z t0 8) - 1)) = 32 then (∀ z_86, z_86 = wI z t0 8 (w32 ((zI z t0 8) - 1)) → P (.inl z_86)) else P (.inr z))))))
theorem U_X5_read_55  {t0 : Nat} {x3 : Int} {z : Z} {c : Nat} {s : Nat} {P : Z ⊕ ((Z)) → Prop} {post : Option Sv ⊕ String → Hp → Prop} (r_x3 : R32 x3) (hw : Wz z)  (hl : ∀ (z : Z), P (.inl z) → Wz z → J mX5_read 412 c s post 55 [some (vr (some t0)), none, none, some (ii (x3)), none] [] (cz z)) (he0 : ∀ (z : Z), P (.inr z) → Wz z → J mX5_read 412 c s post 92 [some (vr (some t0)), none, none, some (ii (x3)), none] [] (cz z)) (H : L_X5_read_55 t0 x3 z c s P) : J mX5_read 412 c s post 55 [some (vr (some t0)), none, none, some (ii (x3)), none] [] (cz z) := by
  unfold L_X5_read_55 at H
  refine j_aload_n (dk dt_X5_read 30 rfl) rfl ?_
  obtain ⟨k_56, H⟩ := H
  refine jz_getI (kz := 8) (dk dt_X5_read 31 rfl) fl_X5_42 rfl rfl rfl k_56 ?_
  refine j_iload_n (dk dt_X5_read 32 rfl) rfl ?_
  refine jz_icmp_le 92 (dk dt_X5_read 33 rfl) (by decide) (hw.1 _ _) r_x3 H (fun H => ?_) (fun H => ?_)
  · exact j_el (he0 _ H hw) (And.intro rfl (And.intro rfl trivial))
  · refine j_aload_n (dk dt_X5_read 34 rfl) rfl ?_
    refine jz_getO (kz := 0) (dk dt_X5_read 35 rfl) fl_X5_9 rfl rfl rfl k_56 ?_
    refine j_aload_n (dk dt_X5_read 36 rfl) rfl ?_
    refine jz_getI (kz := 8) (dk dt_X5_read 37 rfl) fl_X5_42 rfl rfl rfl k_56 ?_
    refine j_iconst (v := Int32.ofInt 1) (dk dt_X5_read 38 rfl) (by decide) ?_
    refine jz_isub (dk dt_X5_read 39 rfl) ?_
    obtain ⟨a_73, e_73, k_73, H⟩ := H
    obtain ⟨p_73, q_73, H⟩ := H
    refine jz_bald (dk dt_X5_read 40 rfl) e_73 k_73 p_73 q_73 hw ?_
    refine j_bipush (v := Int32.ofInt 32) (dk dt_X5_read 41 rfl) (by decide) ?_
    refine jz_icmp_ne 92 (dk dt_X5_read 42 rfl) (by decide) (hw.1 _ _) (by decide) H (fun H => ?_) (fun H => ?_)
    · refine j_aload_n (dk dt_X5_read 43 rfl) rfl ?_
      refine j_dup (dk dt_X5_read 44 rfl) rfl ?_
      refine jz_getI (kz := 8) (dk dt_X5_read 45 rfl) fl_X5_42 rfl rfl rfl k_56 ?_
      refine j_iconst (v := Int32.ofInt 1) (dk dt_X5_read 46 rfl) (by decide) ?_
      refine jz_isub (dk dt_X5_read 47 rfl) ?_
      refine jz_putI (kz := 8) (dk dt_X5_read 48 rfl) fl_X5_42 rfl rfl rfl rfl rfl k_56 hw (r32_w _) (fun w_86 => ?_)
      replace H := H _ rfl
      refine j_goto 55 (dk dt_X5_read 49 rfl) (by decide) ?_
      exact j_el (hl _ H w_86) (And.intro rfl (And.intro rfl trivial))
    · exact j_el (he0 _ H hw) (And.intro rfl (And.intro rfl trivial))
def F_X5_read_139  (t0 : Nat) (x4 : Option Nat) (z : Z) (c : Nat) (s : Nat) (P : Option Nat → Z → Prop) : Prop :=
  (zK z t0 = 6 ∧ (∀ z_141, z_141 = wI z t0 3 0 → P x4 z_141))
theorem T_X5_read_139  {t0 : Nat} {x4 : Option Nat} {z : Z} {c : Nat} {s : Nat} {P : Option Nat → Z → Prop}  (hw : Wz z)   (H : F_X5_read_139 t0 x4 z c s P) : J mX5_read 412 c s (nx (QZA P)) 139 [some (vr (some t0)), none, none, none, some (vr (x4))] [] (cz z) := by
  unfold F_X5_read_139 at H
  refine j_aload_n (dk dt_X5_read 75 rfl) rfl ?_
  refine j_iconst (v := Int32.ofInt 0) (dk dt_X5_read 76 rfl) (by decide) ?_
  obtain ⟨k_141, H⟩ := H
  refine jz_putI (kz := 3) (dk dt_X5_read 77 rfl) fl_X5_24 rfl rfl rfl rfl rfl k_141 hw (by decide) (fun w_141 => ?_)
  replace H := H _ rfl
  refine j_aload (dk dt_X5_read 78 rfl) rfl ?_
  exact j_areturn (dk dt_X5_read 79 rfl) rfl rfl ⟨_, _, rfl, rfl, w_141, H⟩
def F_X5_read_124  (t0 : Nat) (x3 : Int) (x4 : Option Nat) (z : Z) (c : Nat) (s : Nat) (P : Option Nat → Z → Prop) : Prop :=
  (zK z t0 = 6 ∧ (if zI z t0 8 ≤ x3 then F_X5_read_139 t0 x4 z c s P else (∃ c_134 s_134, c_134 ≤ c ∧ s_134 ≤ s ∧ F_X5_plain t0 x3 z c_134 s_134 (fun x_134 z_134 => F_X5_read_139 t0 x_134 z_134 (c - c_134) (s - s_134) P))))
theorem T_X5_read_124  {t0 : Nat} {x3 : Int} {x4 : Option Nat} {z : Z} {c : Nat} {s : Nat} {P : Option Nat → Z → Prop} (r_x3 : R32 x3) (hw : Wz z)   (H : F_X5_read_124 t0 x3 x4 z c s P) : J mX5_read 412 c s (nx (QZA P)) 124 [some (vr (some t0)), none, none, some (ii (x3)), some (vr (x4))] [] (cz z) := by
  unfold F_X5_read_124 at H
  refine j_iload_n (dk dt_X5_read 67 rfl) rfl ?_
  refine j_aload_n (dk dt_X5_read 68 rfl) rfl ?_
  obtain ⟨k_126, H⟩ := H
  refine jz_getI (kz := 8) (dk dt_X5_read 69 rfl) fl_X5_42 rfl rfl rfl k_126 ?_
  refine jz_icmp_ge 139 (dk dt_X5_read 70 rfl) (by decide) r_x3 (hw.1 _ _) H (fun H => ?_) (fun H => ?_)
  · exact j_el (T_X5_read_139  hw   H) (And.intro rfl (And.intro rfl trivial))
  · refine j_aload_n (dk dt_X5_read 71 rfl) rfl ?_
    refine j_iload_n (dk dt_X5_read 72 rfl) rfl ?_
    obtain ⟨c_134, s_134, hc_134, hs_134, H⟩ := H
    refine jz_callV1 (dk dt_X5_read 73 rfl) vl_X5_49 rfl (T_X5_plain r_x3 hw H) k_126 rfl (by decide) hc_134 hs_134 (Nat.le_of_ble_eq_true rfl) (fun v_134 h_134 P_134 => ?_)
    obtain ⟨x_134, z_134, rfl, rfl, w_134, H⟩ := P_134
    dsimp only [rs]
    refine j_astore (dk dt_X5_read 74 rfl) (by decide) ?_
    exact j_el (T_X5_read_139  w_134   H) (And.intro rfl (And.intro rfl trivial))
def F_X5_read_92  (t0 : Nat) (x3 : Int) (z : Z) (c : Nat) (s : Nat) (P : Option Nat → Z → Prop) : Prop :=
  (zK z t0 = 6 ∧ (if zI z t0 8 ≤ x3 then F_X5_read_124 t0 x3 none z c s P else (∃ a_108, zO z t0 0 = some a_108 ∧ zK z a_108 = 14 ∧ (0 ≤ x3 ∧ x3 < zN z a_108 ∧ (if zI z a_108 x3 = 61 then (∃ c_116 s_116, c_116 ≤ c ∧ s_116 ≤ s ∧ F_X5_formula t0 x3 z c_116 s_116 (fun x_116 z_116 => F_X5_read_139 t0 x_116 z_116 (c - c_116) (s - s_116) P)) else F_X5_read_124 t0 x3 none z c s P)))))
theorem T_X5_read_92  {t0 : Nat} {x3 : Int} {z : Z} {c : Nat} {s : Nat} {P : Option Nat → Z → Prop} (r_x3 : R32 x3) (hw : Wz z)   (H : F_X5_read_92 t0 x3 z c s P) : J mX5_read 412 c s (nx (QZA P)) 92 [some (vr (some t0)), none, none, some (ii (x3)), none] [] (cz z) := by
  unfold F_X5_read_92 at H
  refine j_null (dk dt_X5_read 50 rfl) ?_
  refine j_astore (dk dt_X5_read 51 rfl) (by decide) ?_
  refine j_iload_n (dk dt_X5_read 52 rfl) rfl ?_
  refine j_aload_n (dk dt_X5_read 53 rfl) rfl ?_
  obtain ⟨k_97, H⟩ := H
  refine jz_getI (kz := 8) (dk dt_X5_read 54 rfl) fl_X5_42 rfl rfl rfl k_97 ?_
  refine jz_icmp_ge 124 (dk dt_X5_read 55 rfl) (by decide) r_x3 (hw.1 _ _) H (fun H => ?_) (fun H => ?_)
  · exact j_el (T_X5_read_124 r_x3 hw   H) (And.intro rfl (And.intro rfl (And.intro rfl trivial)))
  · refine j_aload_n (dk dt_X5_read 56 rfl) rfl ?_
    refine jz_getO (kz := 0) (dk dt_X5_read 57 rfl) fl_X5_9 rfl rfl rfl k_97 ?_
    refine j_iload_n (dk dt_X5_read 58 rfl) rfl ?_
    obtain ⟨a_108, e_108, k_108, H⟩ := H
    obtain ⟨p_108, q_108, H⟩ := H
    refine jz_bald (dk dt_X5_read 59 rfl) e_108 k_108 p_108 q_108 hw ?_
    refine j_bipush (v := Int32.ofInt 61) (dk dt_X5_read 60 rfl) (by decide) ?_
    refine jz_icmp_ne 124 (dk dt_X5_read 61 rfl) (by decide) (hw.1 _ _) (by decide) H (fun H => ?_) (fun H => ?_)
    · refine j_aload_n (dk dt_X5_read 62 rfl) rfl ?_
      refine j_iload_n (dk dt_X5_read 63 rfl) rfl ?_
      obtain ⟨c_116, s_116, hc_116, hs_116, H⟩ := H
      refine jz_callV1 (dk dt_X5_read 64 rfl) vl_X5_45 rfl (T_X5_formula r_x3 hw H) k_97 rfl (by decide) hc_116 hs_116 (Nat.le_of_ble_eq_true rfl) (fun v_116 h_116 P_116 => ?_)
      obtain ⟨x_116, z_116, rfl, rfl, w_116, H⟩ := P_116
      dsimp only [rs]
      refine j_astore (dk dt_X5_read 65 rfl) (by decide) ?_
      refine j_goto 139 (dk dt_X5_read 66 rfl) (by decide) ?_
      exact j_el (T_X5_read_139  w_116   H) (And.intro rfl (And.intro rfl trivial))
    · exact j_el (T_X5_read_124 r_x3 hw   H) (And.intro rfl (And.intro rfl (And.intro rfl trivial)))
def F_X5_read_55  (t0 : Nat) (x3 : Int) (z : Z) (c : Nat) (s : Nat) (P : Option Nat → Z → Prop) : Prop :=
  lp (S := Z) (E := (Z)) (fun q P_ => L_X5_read_55 t0 x3 q c s P_) z (fun (z : Z) => F_X5_read_92 t0 x3 z c s P)
theorem T_X5_read_55  {t0 : Nat} {x3 : Int} {z : Z} {c : Nat} {s : Nat} {P : Option Nat → Z → Prop} (r_x3 : R32 x3) (hw : Wz z)   (H : F_X5_read_55 t0 x3 z c s P) : J mX5_read 412 c s (nx (QZA P)) 55 [some (vr (some t0)), none, none, some (ii (x3)), none] [] (cz z) := by
  unfold F_X5_read_55 at H
  refine lp_J (G := fun q => Wz (q) → J mX5_read 412 c s (nx (QZA P)) 55 [some (vr (some t0)), none, none, some (ii (x3)), none] [] (cz (q))) (fun z P_ hl_ he_ Hb => ?_) z H hw
  intro hw
  refine U_X5_read_55 (P := P_) r_x3 hw  (fun z Hp hw => hl_ z Hp hw) ?_ Hb
  · intro z Hp hw
    have H := he_ _ Hp
    exact j_el (T_X5_read_92 r_x3 hw   H) (And.intro rfl (And.intro rfl trivial))
def F_X5_read_47  (t0 : Nat) (x3 : Int) (z : Z) (c : Nat) (s : Nat) (P : Option Nat → Z → Prop) : Prop :=
  (zK z t0 = 6 ∧ (∀ z_52, z_52 = wI z t0 8 (zI z t0 3) → F_X5_read_55 t0 x3 z_52 c s P))
theorem T_X5_read_47  {t0 : Nat} {x3 : Int} {z : Z} {c : Nat} {s : Nat} {P : Option Nat → Z → Prop} (r_x3 : R32 x3) (hw : Wz z)   (H : F_X5_read_47 t0 x3 z c s P) : J mX5_read 412 c s (nx (QZA P)) 47 [some (vr (some t0)), none, none, some (ii (x3)), none] [] (cz z) := by
  unfold F_X5_read_47 at H
  refine j_aload_n (dk dt_X5_read 26 rfl) rfl ?_
  refine j_aload_n (dk dt_X5_read 27 rfl) rfl ?_
  obtain ⟨k_49, H⟩ := H
  refine jz_getI (kz := 3) (dk dt_X5_read 28 rfl) fl_X5_24 rfl rfl rfl k_49 ?_
  refine jz_putI (kz := 8) (dk dt_X5_read 29 rfl) fl_X5_42 rfl rfl rfl rfl rfl k_49 hw (hw.1 _ _) (fun w_52 => ?_)
  replace H := H _ rfl
  exact j_el (T_X5_read_55 r_x3 w_52   H) (And.intro rfl (And.intro rfl trivial))
def F_X5_read_22  (t0 : Nat) (x3 : Int) (z : Z) (c : Nat) (s : Nat) (P : Option Nat → Z → Prop) : Prop :=
  lp (S := Int) (E := (Int)) (fun q P_ => L_X5_read_22 t0 q z c s P_) x3 (fun (x3 : Int) => F_X5_read_47 t0 x3 z c s P)
theorem T_X5_read_22  {t0 : Nat} {x3 : Int} {z : Z} {c : Nat} {s : Nat} {P : Option Nat → Z → Prop} (r_x3 : R32 x3) (hw : Wz z)   (H : F_X5_read_22 t0 x3 z c s P) : J mX5_read 412 c s (nx (QZA P)) 22 [some (vr (some t0)), none, none, some (ii (x3)), none] [] (cz z) := by
  unfold F_X5_read_22 at H
  refine lp_J (G := fun q => R32 (q) → J mX5_read 412 c s (nx (QZA P)) 22 [some (vr (some t0)), none, none, some (ii ((q))), none] [] (cz z)) (fun x3 P_ hl_ he_ Hb => ?_) x3 H r_x3
  intro r_x3
  refine U_X5_read_22 (P := P_) r_x3 hw  (fun x3 Hp r_x3 => hl_ x3 Hp r_x3) ?_ Hb
  · intro x3 Hp r_x3
    have H := he_ _ Hp
    exact j_el (T_X5_read_47 r_x3 hw   H) (And.intro rfl (And.intro rfl trivial))
def F_X5_read  (t0 : Nat) (x1 : Option Nat) (x2 : Option Nat) (z : Z) (c : Nat) (s : Nat) (P : Option Nat → Z → Prop) : Prop :=
  (zK z t0 = 6 ∧ (∀ z_2, z_2 = wO z t0 11 x1 → (∀ z_7, z_7 = wO z_2 t0 12 x2 → (∀ z_12, z_12 = wI z_7 t0 4 0 → (∀ z_17, z_17 = wI z_12 t0 5 (-1) → F_X5_read_22 t0 0 z_17 c s P)))))
theorem T_X5_read  {t0 : Nat} {x1 : Option Nat} {x2 : Option Nat} {z : Z} {c : Nat} {s : Nat} {P : Option Nat → Z → Prop}  (hw : Wz z)  (H : F_X5_read t0 x1 x2 z c s P) : Con mX5_read 412 c s [vr (some t0), vr (x1), vr (x2)] (cz z) (QZA P) := by
  refine con_of rfl (Nat.le_of_ble_eq_true rfl) (by decide) ?_
  show J mX5_read 412 c s _ 0 [some (vr (some t0)), some (vr (x1)), some (vr (x2)), none, none] [] (cz z)
  unfold F_X5_read at H
  refine j_aload_n (dk dt_X5_read 0 rfl) rfl ?_
  refine j_aload_n (dk dt_X5_read 1 rfl) rfl ?_
  obtain ⟨k_2, H⟩ := H
  refine jz_putO (kz := 11) (dk dt_X5_read 2 rfl) fl_X5_28 rfl rfl rfl k_2 hw (fun w_2 => ?_)
  replace H := H _ rfl
  refine j_aload_n (dk dt_X5_read 3 rfl) rfl ?_
  refine j_aload_n (dk dt_X5_read 4 rfl) rfl ?_
  refine jz_putO (kz := 12) (dk dt_X5_read 5 rfl) fl_X5_32 rfl rfl rfl k_2 w_2 (fun w_7 => ?_)
  replace H := H _ rfl
  refine j_aload_n (dk dt_X5_read 6 rfl) rfl ?_
  refine j_iconst (v := Int32.ofInt 0) (dk dt_X5_read 7 rfl) (by decide) ?_
  refine jz_putI (kz := 4) (dk dt_X5_read 8 rfl) fl_X5_36 rfl rfl rfl rfl rfl k_2 w_7 (by decide) (fun w_12 => ?_)
  replace H := H _ rfl
  refine j_aload_n (dk dt_X5_read 9 rfl) rfl ?_
  refine j_iconst (v := Int32.ofInt (-1)) (dk dt_X5_read 10 rfl) (by decide) ?_
  refine jz_putI (kz := 5) (dk dt_X5_read 11 rfl) fl_X5_39 rfl rfl rfl rfl rfl k_2 w_12 (by decide) (fun w_17 => ?_)
  replace H := H _ rfl
  refine j_iconst (v := Int32.ofInt 0) (dk dt_X5_read 12 rfl) (by decide) ?_
  refine j_istore_n (dk dt_X5_read 13 rfl) (by decide) ?_
  exact j_el (T_X5_read_22 (by decide) w_17   H) (And.intro rfl (And.intro rfl trivial))
def F_X11_enter  (t0 : Nat) (x1 : Int) (x2 : Int) (z : Z) (c : Nat) (s : Nat) (P : Int → Z → Prop) (X : Nat → Z → Prop) : Prop :=
  (zK z t0 = 12 ∧ (∃ a_6, zO z t0 11 = some a_6 ∧ zK z a_6 = 7 ∧ F_X6_has a_6 x1 x2 z (fun x_6 => (if x_6 = 0 then (1 ≤ c ∧ 6 ≤ s ∧ X 0 z) else (∃ a_32, zO z t0 0 = some a_32 ∧ zK z a_32 = 6 ∧ (∃ c_32 s_32, c_32 ≤ c ∧ s_32 ≤ s ∧ F_X5_read a_32 (zO z t0 11) (zO z t0 2) z c_32 s_32 (fun x_32 z_32 => (zK z_32 t0 = 12 ∧ (∃ a_40, zO z_32 t0 0 = some a_40 ∧ zK z_32 a_40 = 6 ∧ (if zI z_32 a_40 4 = 0 then F_X11_partsOf x_32 z_32 (fun x_55 => (if x_55 ≤ w32 (60000 - (zI z_32 t0 14)) then (∀ z_88, z_88 = wI z_32 t0 14 (w32 (zI z_32 t0 14 + x_55)) → (∃ a_95, zO z_88 t0 11 = some a_95 ∧ zK z_88 a_95 = 7 ∧ (∃ c_95 s_95, c_95 ≤ c - c_32 ∧ s_95 ≤ s - s_32 ∧ F_X6_twin a_95 z_88 c_95 s_95 (fun x_95 z_95 => (∃ a_105, x_95 = some a_105 ∧ zK z_95 a_105 = 7 ∧ F_X6_put a_105 x1 x2 x_32 z_95 (fun z_105 => (zK z_105 t0 = 12 ∧ F_X11_step t0 x_95 z_105 (fun z_111 => P x_55 z_111)))))))) else (1 ≤ c - c_32 ∧ 6 ≤ s - s_32 ∧ X 2 z_32))) else (1 ≤ c - c_32 ∧ 6 ≤ s - s_32 ∧ X 1 z_32)))))))))))
theorem T_X11_enter  {t0 : Nat} {x1 : Int} {x2 : Int} {z : Z} {c : Nat} {s : Nat} {P : Int → Z → Prop} {X : Nat → Z → Prop} (r_x1 : R32 x1) (r_x2 : R32 x2) (hw : Wz z)  (H : F_X11_enter t0 x1 x2 z c s P X) : ConX mX11_enter 413 c s [vr (some t0), ii (x1), ii (x2)] (cz z) (QX (QZI P) X) := by
  refine con_ofX rfl (Nat.le_of_ble_eq_true rfl) (by decide) (by decide) ?_
  show J mX11_enter 413 c s _ 0 [some (vr (some t0)), some (ii (x1)), some (ii (x2)), none, none, none] [] (cz z)
  unfold F_X11_enter at H
  refine j_aload_n (dk dt_X11_enter 0 rfl) rfl ?_
  obtain ⟨k_1, H⟩ := H
  refine jz_getO (kz := 11) (dk dt_X11_enter 1 rfl) fl_X11_104 rfl rfl rfl k_1 ?_
  refine j_iload_n (dk dt_X11_enter 2 rfl) rfl ?_
  refine j_iload_n (dk dt_X11_enter 3 rfl) rfl ?_
  obtain ⟨a_6, e_6, k_6, H⟩ := H
  refine jz_callV2 (dk dt_X11_enter 4 rfl) vl_X11_113 e_6 (T_X6_has r_x1 r_x2 hw H) k_6 rfl (by decide) (Nat.zero_le _) (Nat.zero_le _) (Nat.le_of_ble_eq_true rfl) (fun v_6 h_6 P_6 => ?_)
  obtain ⟨x_6, rfl, r_6, rfl, H⟩ := P_6
  dsimp only [rs]
  refine jz_if_ne 20 (dk dt_X11_enter 5 rfl) (by decide) r_6 H (fun H => ?_) (fun H => ?_)
  · obtain ⟨hc_, hs_, H⟩ := H
    exact j_throw (E := "java/lang/IndexOutOfBoundsException") ⟨117, 119, by decide, (dk dt_X11_enter 6 rfl), (dk dt_X11_enter 7 rfl), (dk dt_X11_enter 8 rfl), (dk dt_X11_enter 9 rfl)⟩ hc_ hs_ (Nat.le_of_ble_eq_true rfl) ⟨0, _, rfl, rfl, hw, H⟩
  · refine j_aload_n (dk dt_X11_enter 10 rfl) rfl ?_
    refine jz_getO (kz := 0) (dk dt_X11_enter 11 rfl) fl_X11_10 rfl rfl rfl k_1 ?_
    refine j_aload_n (dk dt_X11_enter 12 rfl) rfl ?_
    refine jz_getO (kz := 11) (dk dt_X11_enter 13 rfl) fl_X11_104 rfl rfl rfl k_1 ?_
    refine j_aload_n (dk dt_X11_enter 14 rfl) rfl ?_
    refine jz_getO (kz := 2) (dk dt_X11_enter 15 rfl) fl_X11_26 rfl rfl rfl k_1 ?_
    obtain ⟨a_32, e_32, k_32, H⟩ := H
    obtain ⟨c_32, s_32, hc_32, hs_32, H⟩ := H
    refine jz_callV2 (dk dt_X11_enter 16 rfl) vl_X11_120 e_32 (T_X5_read hw H) k_32 rfl (by decide) hc_32 hs_32 (Nat.le_of_ble_eq_true rfl) (fun v_32 h_32 P_32 => ?_)
    obtain ⟨x_32, z_32, rfl, rfl, w_32, H⟩ := P_32
    dsimp only [rs]
    refine j_astore_n (dk dt_X11_enter 17 rfl) (by decide) ?_
    refine j_aload_n (dk dt_X11_enter 18 rfl) rfl ?_
    obtain ⟨k_37, H⟩ := H
    refine jz_getO (kz := 0) (dk dt_X11_enter 19 rfl) fl_X11_10 rfl rfl rfl k_37 ?_
    obtain ⟨a_40, e_40, k_40, H⟩ := H
    refine jz_getI (kz := 4) (dk dt_X11_enter 20 rfl) fl_X11_124 rfl rfl e_40 k_40 ?_
    refine jz_if_eq 54 (dk dt_X11_enter 21 rfl) (by decide) (w_32.1 _ _) H (fun H => ?_) (fun H => ?_)
    · refine j_aload_n (dk dt_X11_enter 26 rfl) rfl ?_
      refine j_callS1 (dk dt_X11_enter 27 rfl) sl_X11_130 (T_X11_partsOf w_32 H) rfl (by decide) (Nat.zero_le _) (Nat.zero_le _) (Nat.le_of_ble_eq_true rfl) (fun v_55 h_55 P_55 => ?_)
      obtain ⟨x_55, rfl, r_55, rfl, H⟩ := P_55
      dsimp only [rs]
      refine j_istore (dk dt_X11_enter 28 rfl) (by decide) ?_
      refine j_iload (dk dt_X11_enter 29 rfl) rfl ?_
      refine j_ldc (v := Int32.ofInt (60000)) (dk dt_X11_enter 30 rfl) (by exact kl_X11_134) ?_
      refine j_aload_n (dk dt_X11_enter 31 rfl) rfl ?_
      refine jz_getI (kz := 14) (dk dt_X11_enter 32 rfl) fl_X11_135 rfl rfl rfl k_37 ?_
      refine jz_isub (dk dt_X11_enter 33 rfl) ?_
      refine jz_icmp_le 80 (dk dt_X11_enter 34 rfl) (by decide) r_55 (r32_w _) H (fun H => ?_) (fun H => ?_)
      · refine j_aload_n (dk dt_X11_enter 39 rfl) rfl ?_
        refine j_dup (dk dt_X11_enter 40 rfl) rfl ?_
        refine jz_getI (kz := 14) (dk dt_X11_enter 41 rfl) fl_X11_135 rfl rfl rfl k_37 ?_
        refine j_iload (dk dt_X11_enter 42 rfl) rfl ?_
        refine jz_iadd (dk dt_X11_enter 43 rfl) ?_
        refine jz_putI (kz := 14) (dk dt_X11_enter 44 rfl) fl_X11_135 rfl rfl rfl rfl rfl k_37 w_32 (r32_w _) (fun w_88 => ?_)
        replace H := H _ rfl
        refine j_aload_n (dk dt_X11_enter 45 rfl) rfl ?_
        refine jz_getO (kz := 11) (dk dt_X11_enter 46 rfl) fl_X11_104 rfl rfl rfl k_37 ?_
        obtain ⟨a_95, e_95, k_95, H⟩ := H
        obtain ⟨c_95, s_95, hc_95, hs_95, H⟩ := H
        refine jz_callV0 (dk dt_X11_enter 47 rfl) vl_X11_100 e_95 (T_X6_twin w_88 H) k_95 rfl (by decide) hc_95 hs_95 (Nat.le_of_ble_eq_true rfl) (fun v_95 h_95 P_95 => ?_)
        obtain ⟨x_95, z_95, rfl, rfl, w_95, H⟩ := P_95
        dsimp only [rs]
        refine j_astore (dk dt_X11_enter 48 rfl) (by decide) ?_
        refine j_aload (dk dt_X11_enter 49 rfl) rfl ?_
        refine j_iload_n (dk dt_X11_enter 50 rfl) rfl ?_
        refine j_iload_n (dk dt_X11_enter 51 rfl) rfl ?_
        refine j_aload_n (dk dt_X11_enter 52 rfl) rfl ?_
        obtain ⟨a_105, e_105, k_105, H⟩ := H
        refine jz_callV3 (dk dt_X11_enter 53 rfl) vl_X11_141 e_105 (T_X6_put r_x1 r_x2 w_95 H) k_105 rfl (by decide) (Nat.zero_le _) (Nat.zero_le _) (Nat.le_of_ble_eq_true rfl) (fun v_105 h_105 P_105 => ?_)
        obtain ⟨z_105, rfl, rfl, w_105, H⟩ := P_105
        dsimp only [rs]
        refine j_aload_n (dk dt_X11_enter 54 rfl) rfl ?_
        refine j_aload (dk dt_X11_enter 55 rfl) rfl ?_
        obtain ⟨k_111, H⟩ := H
        refine jz_callV1 (dk dt_X11_enter 56 rfl) vl_X11_145 rfl (T_X11_step w_105 H) k_111 rfl (by decide) (Nat.zero_le _) (Nat.zero_le _) (Nat.le_of_ble_eq_true rfl) (fun v_111 h_111 P_111 => ?_)
        obtain ⟨z_111, rfl, rfl, w_111, H⟩ := P_111
        dsimp only [rs]
        refine j_iload (dk dt_X11_enter 57 rfl) rfl ?_
        exact j_ireturn (dk dt_X11_enter 58 rfl) rfl rfl ⟨_, _, rfl, r_55, rfl, w_111, H⟩
      · obtain ⟨hc_, hs_, H⟩ := H
        exact j_throw (E := "java/lang/UnsupportedOperationException") ⟨138, 140, by decide, (dk dt_X11_enter 35 rfl), (dk dt_X11_enter 36 rfl), (dk dt_X11_enter 37 rfl), (dk dt_X11_enter 38 rfl)⟩ hc_ hs_ (Nat.le_of_ble_eq_true rfl) ⟨2, _, rfl, rfl, w_32, H⟩
    · obtain ⟨hc_, hs_, H⟩ := H
      exact j_throw (E := "java/lang/IllegalArgumentException") ⟨127, 129, by decide, (dk dt_X11_enter 22 rfl), (dk dt_X11_enter 23 rfl), (dk dt_X11_enter 24 rfl), (dk dt_X11_enter 25 rfl)⟩ hc_ hs_ (Nat.le_of_ble_eq_true rfl) ⟨1, _, rfl, rfl, w_32, H⟩
def F_X11_erase_25  (z : Z) (c : Nat) (s : Nat) (P : Int → Z → Prop) (X : Nat → Z → Prop) : Prop :=
  (1 ≤ c ∧ 6 ≤ s ∧ X 0 z)
theorem T_X11_erase_25  {z : Z} {c : Nat} {s : Nat} {P : Int → Z → Prop} {X : Nat → Z → Prop}  (hw : Wz z)   (H : F_X11_erase_25 z c s P X) : J mX11_erase 6 c s (QX (QZI P) X) 25 [none, none, none, none, none, none, none, none, none] [] (cz z) := by
  unfold F_X11_erase_25 at H
  obtain ⟨hc_, hs_, H⟩ := H
  exact j_throw (E := "java/lang/IndexOutOfBoundsException") ⟨117, 119, by decide, (dk dt_X11_erase 12 rfl), (dk dt_X11_erase 13 rfl), (dk dt_X11_erase 14 rfl), (dk dt_X11_erase 15 rfl)⟩ hc_ hs_ (Nat.le_of_ble_eq_true rfl) ⟨0, _, rfl, rfl, hw, H⟩
def F_X11_erase_44  (z : Z) (c : Nat) (s : Nat) (P : Int → Z → Prop) (X : Nat → Z → Prop) : Prop :=
  (1 ≤ c ∧ 6 ≤ s ∧ X 1 z)
theorem T_X11_erase_44  {z : Z} {c : Nat} {s : Nat} {P : Int → Z → Prop} {X : Nat → Z → Prop}  (hw : Wz z)   (H : F_X11_erase_44 z c s P X) : J mX11_erase 6 c s (QX (QZI P) X) 44 [none, none, none, none, none, none, none, none, none] [] (cz z) := by
  unfold F_X11_erase_44 at H
  obtain ⟨hc_, hs_, H⟩ := H
  exact j_throw (E := "java/lang/IllegalArgumentException") ⟨127, 129, by decide, (dk dt_X11_erase 22 rfl), (dk dt_X11_erase 23 rfl), (dk dt_X11_erase 24 rfl), (dk dt_X11_erase 25 rfl)⟩ hc_ hs_ (Nat.le_of_ble_eq_true rfl) ⟨1, _, rfl, rfl, hw, H⟩
def F_X11_erase_104  (t0 : Nat) (x2 : Int) (x3 : Int) (x4 : Int) (x5 : Option Nat) (x7 : Int) (x8 : Int) (s0 : Int) (s1 : Int) (z : Z) (c : Nat) (s : Nat) (P : (Int × Int × Z) ⊕ ((Int × Z)) → Prop) : Prop :=
  (∃ a_114, x5 = some a_114 ∧ zK z a_114 = 7 ∧ F_X6_put a_114 x7 x8 none z (fun z_114 => P (.inl (w32 (s0 + s1), w32 (x8 + 1), z_114))))
theorem T_X11_erase_104  {t0 : Nat} {x2 : Int} {x3 : Int} {x4 : Int} {x5 : Option Nat} {x7 : Int} {x8 : Int} {s0 : Int} {s1 : Int} {z : Z} {c : Nat} {s : Nat} {P : (Int × Int × Z) ⊕ ((Int × Z)) → Prop} {post : Option Sv ⊕ String → Hp → Prop} (r_x2 : R32 x2) (r_x3 : R32 x3) (r_x4 : R32 x4) (r_x7 : R32 x7) (r_x8 : R32 x8) (r_s0 : R32 s0) (r_s1 : R32 s1) (hw : Wz z)  (hl : ∀ (x6 : Int) (x8 : Int) (z : Z), P (.inl (x6, x8, z)) → Wz z → R32 x6 → R32 x8 → J mX11_erase 6 c s post 76 [some (vr (some t0)), none, some (ii (x2)), some (ii (x3)), some (ii (x4)), some (vr (x5)), some (ii (x6)), some (ii (x7)), some (ii (x8))] [] (cz z)) (he0 : ∀ (x6 : Int) (z : Z), P (.inr (x6, z)) → Wz z → R32 x6 → J mX11_erase 6 c s post 123 [some (vr (some t0)), none, some (ii (x2)), some (ii (x3)), some (ii (x4)), some (vr (x5)), some (ii (x6)), some (ii (x7)), none] [] (cz z)) (H : F_X11_erase_104 t0 x2 x3 x4 x5 x7 x8 s0 s1 z c s P) : J mX11_erase 6 c s (post) 104 [some (vr (some t0)), none, some (ii (x2)), some (ii (x3)), some (ii (x4)), some (vr (x5)), none, some (ii (x7)), some (ii (x8))] [ii (s1), ii (s0)] (cz z) := by
  unfold F_X11_erase_104 at H
  refine jz_iadd (dk dt_X11_erase 52 rfl) ?_
  refine j_istore (dk dt_X11_erase 53 rfl) (by decide) ?_
  refine j_aload (dk dt_X11_erase 54 rfl) rfl ?_
  refine j_iload (dk dt_X11_erase 55 rfl) rfl ?_
  refine j_iload (dk dt_X11_erase 56 rfl) rfl ?_
  refine j_null (dk dt_X11_erase 57 rfl) ?_
  obtain ⟨a_114, e_114, k_114, H⟩ := H
  refine jz_callV3 (dk dt_X11_erase 58 rfl) vl_X11_141 e_114 (T_X6_put r_x7 r_x8 hw H) k_114 rfl (by decide) (Nat.zero_le _) (Nat.zero_le _) (Nat.le_of_ble_eq_true rfl) (fun v_114 h_114 P_114 => ?_)
  obtain ⟨z_114, rfl, rfl, w_114, H⟩ := P_114
  dsimp only [rs]
  refine jz_iinc (dk dt_X11_erase 59 rfl) rfl ?_
  refine j_goto 76 (dk dt_X11_erase 60 rfl) (by decide) ?_
  exact j_el (hl _ _ _ H w_114 (r32_w _) (r32_w _)) (And.intro rfl (And.intro rfl (And.intro rfl (And.intro rfl (And.intro rfl (And.intro rfl (And.intro rfl (And.intro rfl trivial))))))))
def L_X11_erase_76  (t0 : Nat) (x2 : Int) (x3 : Int) (x4 : Int) (x5 : Option Nat) (x6 : Int) (x7 : Int) (x8 : Int) (z : Z) (c : Nat) (s : Nat) (P : (Int × Int × Z) ⊕ ((Int × Z)) → Prop) : Prop :=
  (if x4 < x8 then P (.inr (x6, z)) else (zK z t0 = 12 ∧ (∃ a_93, zO z t0 11 = some a_93 ∧ zK z a_93 = 7 ∧ F_X6_at a_93 x7 x8 z (fun x_93 => (if x_93 = none then F_X11_erase_104 t0 x2 x3 x4 x5 x7 x8 x6 0 z c s P else F_X11_erase_104 t0 x2 x3 x4 x5 x7 x8 x6 1 z c s P)))))
theorem U_X11_erase_76  {t0 : Nat} {x2 : Int} {x3 : Int} {x4 : Int} {x5 : Option Nat} {x6 : Int} {x7 : Int} {x8 : Int} {z : Z} {c : Nat} {s : Nat} {P : (Int × Int × Z) ⊕ ((Int × Z)) → Prop} {post : Option Sv ⊕ String → Hp → Prop} (r_x2 : R32 x2) (r_x3 : R32 x3) (r_x4 : R32 x4) (r_x6 : R32 x6) (r_x7 : R32 x7) (r_x8 : R32 x8) (hw : Wz z)  (hl : ∀ (x6 : Int) (x8 : Int) (z : Z), P (.inl (x6, x8, z)) → Wz z → R32 x6 → R32 x8 → J mX11_erase 6 c s post 76 [some (vr (some t0)), none, some (ii (x2)), some (ii (x3)), some (ii (x4)), some (vr (x5)), some (ii (x6)), some (ii (x7)), some (ii (x8))] [] (cz z)) (he0 : ∀ (x6 : Int) (z : Z), P (.inr (x6, z)) → Wz z → R32 x6 → J mX11_erase 6 c s post 123 [some (vr (some t0)), none, some (ii (x2)), some (ii (x3)), some (ii (x4)), some (vr (x5)), some (ii (x6)), some (ii (x7)), none] [] (cz z)) (H : L_X11_erase_76 t0 x2 x3 x4 x5 x6 x7 x8 z c s P) : J mX11_erase 6 c s post 76 [some (vr (some t0)), none, some (ii (x2)), some (ii (x3)), some (ii (x4)), some (vr (x5)), some (ii (x6)), some (ii (x7)), some (ii (x8))] [] (cz z) := by
  unfold L_X11_erase_76 at H
  refine j_iload (dk dt_X11_erase 39 rfl) rfl ?_
  refine j_iload (dk dt_X11_erase 40 rfl) rfl ?_
  refine jz_icmp_gt 123 (dk dt_X11_erase 41 rfl) (by decide) r_x8 r_x4 H (fun H => ?_) (fun H => ?_)
  · exact j_el (he0 _ _ H hw r_x6) (And.intro rfl (And.intro rfl (And.intro rfl (And.intro rfl (And.intro rfl (And.intro rfl (And.intro rfl trivial)))))))
  · refine j_iload (dk dt_X11_erase 42 rfl) rfl ?_
    refine j_aload_n (dk dt_X11_erase 43 rfl) rfl ?_
    obtain ⟨k_86, H⟩ := H
    refine jz_getO (kz := 11) (dk dt_X11_erase 44 rfl) fl_X11_104 rfl rfl rfl k_86 ?_
    refine j_iload (dk dt_X11_erase 45 rfl) rfl ?_
    refine j_iload (dk dt_X11_erase 46 rfl) rfl ?_
    obtain ⟨a_93, e_93, k_93, H⟩ := H
    refine jz_callV2 (dk dt_X11_erase 47 rfl) vl_X11_152 e_93 (T_X6_at r_x7 r_x8 hw H) k_93 rfl (by decide) (Nat.zero_le _) (Nat.zero_le _) (Nat.le_of_ble_eq_true rfl) (fun v_93 h_93 P_93 => ?_)
    obtain ⟨x_93, rfl, rfl, H⟩ := P_93
    dsimp only [rs]
    refine jz_ifnull 103 (dk dt_X11_erase 48 rfl) (by decide) H (fun H => ?_) (fun H => ?_)
    · refine j_iconst (v := Int32.ofInt 0) (dk dt_X11_erase 51 rfl) (by decide) ?_
      exact j_el (T_X11_erase_104 r_x2 r_x3 r_x4 r_x7 r_x8 r_x6 (by decide) hw  hl he0 H) (And.intro rfl (And.intro rfl (And.intro rfl (And.intro rfl (And.intro rfl (And.intro rfl (And.intro rfl trivial)))))))
    · refine j_iconst (v := Int32.ofInt 1) (dk dt_X11_erase 49 rfl) (by decide) ?_
      refine j_goto 104 (dk dt_X11_erase 50 rfl) (by decide) ?_
      exact j_el (T_X11_erase_104 r_x2 r_x3 r_x4 r_x7 r_x8 r_x6 (by decide) hw  hl he0 H) (And.intro rfl (And.intro rfl (And.intro rfl (And.intro rfl (And.intro rfl (And.intro rfl (And.intro rfl trivial)))))))
def F_X11_erase_76  (t0 : Nat) (x2 : Int) (x3 : Int) (x4 : Int) (x5 : Option Nat) (x6 : Int) (x7 : Int) (x8 : Int) (z : Z) (c : Nat) (s : Nat) (P : (Int × Int × Z) ⊕ ((Int × Z)) → Prop) : Prop :=
  lp (S := Int × Int × Z) (E := (Int × Z)) (fun q P_ => L_X11_erase_76 t0 x2 x3 x4 x5 q.1 x7 q.2.1 q.2.2 c s P_) (x6, x8, z) (fun e => match e with | (x6, z) => P (.inl (x6, w32 (x7 + 1), z)))
theorem T_X11_erase_76  {t0 : Nat} {x2 : Int} {x3 : Int} {x4 : Int} {x5 : Option Nat} {x6 : Int} {x7 : Int} {x8 : Int} {z : Z} {c : Nat} {s : Nat} {P : (Int × Int × Z) ⊕ ((Int × Z)) → Prop} {post : Option Sv ⊕ String → Hp → Prop} (r_x2 : R32 x2) (r_x3 : R32 x3) (r_x4 : R32 x4) (r_x6 : R32 x6) (r_x7 : R32 x7) (r_x8 : R32 x8) (hw : Wz z)  (hl : ∀ (x6 : Int) (x7 : Int) (z : Z), P (.inl (x6, x7, z)) → Wz z → R32 x6 → R32 x7 → J mX11_erase 6 c s post 67 [some (vr (some t0)), none, some (ii (x2)), some (ii (x3)), some (ii (x4)), some (vr (x5)), some (ii (x6)), some (ii (x7)), none] [] (cz z)) (he0 : ∀ (x6 : Int) (z : Z), P (.inr (x6, z)) → Wz z → R32 x6 → J mX11_erase 6 c s post 129 [some (vr (some t0)), none, none, none, none, some (vr (x5)), some (ii (x6)), none, none] [] (cz z)) (H : F_X11_erase_76 t0 x2 x3 x4 x5 x6 x7 x8 z c s P) : J mX11_erase 6 c s (post) 76 [some (vr (some t0)), none, some (ii (x2)), some (ii (x3)), some (ii (x4)), some (vr (x5)), some (ii (x6)), some (ii (x7)), some (ii (x8))] [] (cz z) := by
  unfold F_X11_erase_76 at H
  refine lp_J (G := fun q => Wz (q.2.2) → R32 (q.1) → R32 (q.2.1) → J mX11_erase 6 c s (post) 76 [some (vr (some t0)), none, some (ii (x2)), some (ii (x3)), some (ii (x4)), some (vr (x5)), some (ii ((q.1))), some (ii (x7)), some (ii ((q.2.1)))] [] (cz (q.2.2))) (fun q P_ hl_ he_ Hb => ?_) (x6, x8, z) H hw r_x6 r_x8
  obtain ⟨x6, x8, z⟩ := q
  intro hw r_x6 r_x8
  refine U_X11_erase_76 (P := P_) r_x2 r_x3 r_x4 r_x6 r_x7 r_x8 hw  (fun x6 x8 z Hp hw r_x6 r_x8 => hl_ (x6, x8, z) Hp hw r_x6 r_x8) ?_ Hb
  · intro x6 z Hp hw r_x6
    have H := he_ _ Hp
    refine jz_iinc (dk dt_X11_erase 61 rfl) rfl ?_
    refine j_goto 67 (dk dt_X11_erase 62 rfl) (by decide) ?_
    exact j_el (hl _ _ _ H hw r_x6 (r32_w _)) (And.intro rfl (And.intro rfl (And.intro rfl (And.intro rfl (And.intro rfl (And.intro rfl (And.intro rfl trivial)))))))
def L_X11_erase_67  (t0 : Nat) (x2 : Int) (x3 : Int) (x4 : Int) (x5 : Option Nat) (x6 : Int) (x7 : Int) (z : Z) (c : Nat) (s : Nat) (P : (Int × Int × Z) ⊕ ((Int × Z)) → Prop) : Prop :=
  (if x3 < x7 then P (.inr (x6, z)) else F_X11_erase_76 t0 x2 x3 x4 x5 x6 x7 x2 z c s P)
theorem U_X11_erase_67  {t0 : Nat} {x2 : Int} {x3 : Int} {x4 : Int} {x5 : Option Nat} {x6 : Int} {x7 : Int} {z : Z} {c : Nat} {s : Nat} {P : (Int × Int × Z) ⊕ ((Int × Z)) → Prop} {post : Option Sv ⊕ String → Hp → Prop} (r_x2 : R32 x2) (r_x3 : R32 x3) (r_x4 : R32 x4) (r_x6 : R32 x6) (r_x7 : R32 x7) (hw : Wz z)  (hl : ∀ (x6 : Int) (x7 : Int) (z : Z), P (.inl (x6, x7, z)) → Wz z → R32 x6 → R32 x7 → J mX11_erase 6 c s post 67 [some (vr (some t0)), none, some (ii (x2)), some (ii (x3)), some (ii (x4)), some (vr (x5)), some (ii (x6)), some (ii (x7)), none] [] (cz z)) (he0 : ∀ (x6 : Int) (z : Z), P (.inr (x6, z)) → Wz z → R32 x6 → J mX11_erase 6 c s post 129 [some (vr (some t0)), none, none, none, none, some (vr (x5)), some (ii (x6)), none, none] [] (cz z)) (H : L_X11_erase_67 t0 x2 x3 x4 x5 x6 x7 z c s P) : J mX11_erase 6 c s post 67 [some (vr (some t0)), none, some (ii (x2)), some (ii (x3)), some (ii (x4)), some (vr (x5)), some (ii (x6)), some (ii (x7)), none] [] (cz z) := by
  unfold L_X11_erase_67 at H
  refine j_iload (dk dt_X11_erase 34 rfl) rfl ?_
  refine j_iload_n (dk dt_X11_erase 35 rfl) rfl ?_
  refine jz_icmp_gt 129 (dk dt_X11_erase 36 rfl) (by decide) r_x7 r_x3 H (fun H => ?_) (fun H => ?_)
  · exact j_el (he0 _ _ H hw r_x6) (And.intro rfl (And.intro rfl (And.intro rfl trivial)))
  · refine j_iload_n (dk dt_X11_erase 37 rfl) rfl ?_
    refine j_istore (dk dt_X11_erase 38 rfl) (by decide) ?_
    exact j_el (T_X11_erase_76 r_x2 r_x3 r_x4 r_x6 r_x7 r_x2 hw  hl he0 H) (And.intro rfl (And.intro rfl (And.intro rfl (And.intro rfl (And.intro rfl (And.intro rfl (And.intro rfl (And.intro rfl trivial))))))))
def F_X11_erase_67  (t0 : Nat) (x2 : Int) (x3 : Int) (x4 : Int) (x5 : Option Nat) (x6 : Int) (x7 : Int) (z : Z) (c : Nat) (s : Nat) (P : Int → Z → Prop) (X : Nat → Z → Prop) : Prop :=
  lp (S := Int × Int × Z) (E := (Int × Z)) (fun q P_ => L_X11_erase_67 t0 x2 x3 x4 x5 q.1 q.2.1 q.2.2 c s P_) (x6, x7, z) (fun e => match e with | (x6, z) => (zK z t0 = 12 ∧ F_X11_step t0 x5 z (fun z_132 => P x6 z_132)))
theorem T_X11_erase_67  {t0 : Nat} {x2 : Int} {x3 : Int} {x4 : Int} {x5 : Option Nat} {x6 : Int} {x7 : Int} {z : Z} {c : Nat} {s : Nat} {P : Int → Z → Prop} {X : Nat → Z → Prop} (r_x2 : R32 x2) (r_x3 : R32 x3) (r_x4 : R32 x4) (r_x6 : R32 x6) (r_x7 : R32 x7) (hw : Wz z)   (H : F_X11_erase_67 t0 x2 x3 x4 x5 x6 x7 z c s P X) : J mX11_erase 6 c s (QX (QZI P) X) 67 [some (vr (some t0)), none, some (ii (x2)), some (ii (x3)), some (ii (x4)), some (vr (x5)), some (ii (x6)), some (ii (x7)), none] [] (cz z) := by
  unfold F_X11_erase_67 at H
  refine lp_J (G := fun q => Wz (q.2.2) → R32 (q.1) → R32 (q.2.1) → J mX11_erase 6 c s (QX (QZI P) X) 67 [some (vr (some t0)), none, some (ii (x2)), some (ii (x3)), some (ii (x4)), some (vr (x5)), some (ii ((q.1))), some (ii ((q.2.1))), none] [] (cz (q.2.2))) (fun q P_ hl_ he_ Hb => ?_) (x6, x7, z) H hw r_x6 r_x7
  obtain ⟨x6, x7, z⟩ := q
  intro hw r_x6 r_x7
  refine U_X11_erase_67 (P := P_) r_x2 r_x3 r_x4 r_x6 r_x7 hw  (fun x6 x7 z Hp hw r_x6 r_x7 => hl_ (x6, x7, z) Hp hw r_x6 r_x7) ?_ Hb
  · intro x6 z Hp hw r_x6
    have H := he_ _ Hp
    refine j_aload_n (dk dt_X11_erase 63 rfl) rfl ?_
    refine j_aload (dk dt_X11_erase 64 rfl) rfl ?_
    obtain ⟨k_132, H⟩ := H
    refine jz_callV1 (dk dt_X11_erase 65 rfl) vl_X11_145 rfl (T_X11_step hw H) k_132 rfl (by decide) (Nat.zero_le _) (Nat.zero_le _) (Nat.le_of_ble_eq_true rfl) (fun v_132 h_132 P_132 => ?_)
    obtain ⟨z_132, rfl, rfl, w_132, H⟩ := P_132
    dsimp only [rs]
    refine j_iload (dk dt_X11_erase 66 rfl) rfl ?_
    exact j_ireturn (dk dt_X11_erase 67 rfl) rfl rfl ⟨_, _, rfl, r_x6, rfl, w_132, H⟩
def F_X11_erase  (t0 : Nat) (x1 : Int) (x2 : Int) (x3 : Int) (x4 : Int) (z : Z) (c : Nat) (s : Nat) (P : Int → Z → Prop) (X : Nat → Z → Prop) : Prop :=
  (zK z t0 = 12 ∧ (∃ a_6, zO z t0 11 = some a_6 ∧ zK z a_6 = 7 ∧ F_X6_has a_6 x1 x2 z (fun x_6 => (if x_6 = 0 then F_X11_erase_25 z c s P X else F_X6_has a_6 x3 x4 z (fun x_19 => (if x_19 = 0 then F_X11_erase_25 z c s P X else (if x3 < x1 then F_X11_erase_44 z c s P X else (if x2 ≤ x4 then (∃ c_56 s_56, c_56 ≤ c ∧ s_56 ≤ s ∧ F_X6_twin a_6 z c_56 s_56 (fun x_56 z_56 => F_X11_erase_67 t0 x2 x3 x4 x_56 0 x1 z_56 (c - c_56) (s - s_56) P X)) else F_X11_erase_44 z c s P X))))))))
theorem T_X11_erase  {t0 : Nat} {x1 : Int} {x2 : Int} {x3 : Int} {x4 : Int} {z : Z} {c : Nat} {s : Nat} {P : Int → Z → Prop} {X : Nat → Z → Prop} (r_x1 : R32 x1) (r_x2 : R32 x2) (r_x3 : R32 x3) (r_x4 : R32 x4) (hw : Wz z)  (H : F_X11_erase t0 x1 x2 x3 x4 z c s P X) : ConX mX11_erase 6 c s [vr (some t0), ii (x1), ii (x2), ii (x3), ii (x4)] (cz z) (QX (QZI P) X) := by
  refine con_ofX rfl (Nat.le_of_ble_eq_true rfl) (by decide) (by decide) ?_
  show J mX11_erase 6 c s _ 0 [some (vr (some t0)), some (ii (x1)), some (ii (x2)), some (ii (x3)), some (ii (x4)), none, none, none, none] [] (cz z)
  unfold F_X11_erase at H
  refine j_aload_n (dk dt_X11_erase 0 rfl) rfl ?_
  obtain ⟨k_1, H⟩ := H
  refine jz_getO (kz := 11) (dk dt_X11_erase 1 rfl) fl_X11_104 rfl rfl rfl k_1 ?_
  refine j_iload_n (dk dt_X11_erase 2 rfl) rfl ?_
  refine j_iload_n (dk dt_X11_erase 3 rfl) rfl ?_
  obtain ⟨a_6, e_6, k_6, H⟩ := H
  refine jz_callV2 (dk dt_X11_erase 4 rfl) vl_X11_113 e_6 (T_X6_has r_x1 r_x2 hw H) k_6 rfl (by decide) (Nat.zero_le _) (Nat.zero_le _) (Nat.le_of_ble_eq_true rfl) (fun v_6 h_6 P_6 => ?_)
  obtain ⟨x_6, rfl, r_6, rfl, H⟩ := P_6
  dsimp only [rs]
  refine jz_if_eq 25 (dk dt_X11_erase 5 rfl) (by decide) r_6 H (fun H => ?_) (fun H => ?_)
  · exact j_el (T_X11_erase_25  hw   H) trivial
  · refine j_aload_n (dk dt_X11_erase 6 rfl) rfl ?_
    refine jz_getO (kz := 11) (dk dt_X11_erase 7 rfl) fl_X11_104 rfl rfl rfl k_1 ?_
    refine j_iload_n (dk dt_X11_erase 8 rfl) rfl ?_
    refine j_iload (dk dt_X11_erase 9 rfl) rfl ?_
    refine jz_callV2 (dk dt_X11_erase 10 rfl) vl_X11_113 e_6 (T_X6_has r_x3 r_x4 hw H) k_6 rfl (by decide) (Nat.zero_le _) (Nat.zero_le _) (Nat.le_of_ble_eq_true rfl) (fun v_19 h_19 P_19 => ?_)
    obtain ⟨x_19, rfl, r_19, rfl, H⟩ := P_19
    dsimp only [rs]
    refine jz_if_ne 33 (dk dt_X11_erase 11 rfl) (by decide) r_19 H (fun H => ?_) (fun H => ?_)
    · exact j_el (T_X11_erase_25  hw   H) trivial
    · refine j_iload_n (dk dt_X11_erase 16 rfl) rfl ?_
      refine j_iload_n (dk dt_X11_erase 17 rfl) rfl ?_
      refine jz_icmp_lt 44 (dk dt_X11_erase 18 rfl) (by decide) r_x3 r_x1 H (fun H => ?_) (fun H => ?_)
      · exact j_el (T_X11_erase_44  hw   H) trivial
      · refine j_iload (dk dt_X11_erase 19 rfl) rfl ?_
        refine j_iload_n (dk dt_X11_erase 20 rfl) rfl ?_
        refine jz_icmp_ge 52 (dk dt_X11_erase 21 rfl) (by decide) r_x4 r_x2 H (fun H => ?_) (fun H => ?_)
        · refine j_aload_n (dk dt_X11_erase 26 rfl) rfl ?_
          refine jz_getO (kz := 11) (dk dt_X11_erase 27 rfl) fl_X11_104 rfl rfl rfl k_1 ?_
          obtain ⟨c_56, s_56, hc_56, hs_56, H⟩ := H
          refine jz_callV0 (dk dt_X11_erase 28 rfl) vl_X11_100 e_6 (T_X6_twin hw H) k_6 rfl (by decide) hc_56 hs_56 (Nat.le_of_ble_eq_true rfl) (fun v_56 h_56 P_56 => ?_)
          obtain ⟨x_56, z_56, rfl, rfl, w_56, H⟩ := P_56
          dsimp only [rs]
          refine j_astore (dk dt_X11_erase 29 rfl) (by decide) ?_
          refine j_iconst (v := Int32.ofInt 0) (dk dt_X11_erase 30 rfl) (by decide) ?_
          refine j_istore (dk dt_X11_erase 31 rfl) (by decide) ?_
          refine j_iload_n (dk dt_X11_erase 32 rfl) rfl ?_
          refine j_istore (dk dt_X11_erase 33 rfl) (by decide) ?_
          exact j_el (T_X11_erase_67 r_x2 r_x3 r_x4 (by decide) r_x1 w_56   H) (And.intro rfl (And.intro rfl (And.intro rfl (And.intro rfl (And.intro rfl (And.intro rfl (And.intro rfl trivial)))))))
        · exact j_el (T_X11_erase_44  hw   H) trivial
def F_X11_fault_28  (s0 : Int) (z : Z) (P : Int → Prop) : Prop :=
  P s0
theorem T_X11_fault_28  {s0 : Int} {z : Z} {P : Int → Prop} (r_s0 : R32 s0) (hw : Wz z)   (H : F_X11_fault_28 s0 z P) : J mX11_fault 1 0 0 (nx (QPI (cz z) P)) 28 [none, none] [ii (s0)] (cz z) := by
  unfold F_X11_fault_28 at H
  exact j_ireturn (dk dt_X11_fault 14 rfl) rfl rfl ⟨_, rfl, r_s0, rfl, H⟩
def F_X11_fault  (t0 : Nat) (x1 : Int) (z : Z) (P : Int → Prop) : Prop :=
  (if x1 = 0 then (zK z t0 = 12 ∧ (∃ a_8, zO z t0 0 = some a_8 ∧ zK z a_8 = 6 ∧ P (zI z a_8 4))) else (if x1 = 1 then (zK z t0 = 12 ∧ (∃ a_21, zO z t0 0 = some a_21 ∧ zK z a_21 = 6 ∧ F_X11_fault_28 (zI z a_21 5) z P)) else F_X11_fault_28 (-1) z P))
theorem T_X11_fault  {t0 : Nat} {x1 : Int} {z : Z} {P : Int → Prop} (r_x1 : R32 x1) (hw : Wz z)  (H : F_X11_fault t0 x1 z P) : Con mX11_fault 1 0 0 [vr (some t0), ii (x1)] (cz z) (QPI (cz z) P) := by
  refine con_of rfl (Nat.le_of_ble_eq_true rfl) (by decide) ?_
  show J mX11_fault 1 0 0 _ 0 [some (vr (some t0)), some (ii (x1))] [] (cz z)
  unfold F_X11_fault at H
  refine j_iload_n (dk dt_X11_fault 0 rfl) rfl ?_
  refine jz_if_ne 12 (dk dt_X11_fault 1 rfl) (by decide) r_x1 H (fun H => ?_) (fun H => ?_)
  · refine j_aload_n (dk dt_X11_fault 2 rfl) rfl ?_
    obtain ⟨k_5, H⟩ := H
    refine jz_getO (kz := 0) (dk dt_X11_fault 3 rfl) fl_X11_10 rfl rfl rfl k_5 ?_
    obtain ⟨a_8, e_8, k_8, H⟩ := H
    refine jz_getI (kz := 4) (dk dt_X11_fault 4 rfl) fl_X11_124 rfl rfl e_8 k_8 ?_
    exact j_ireturn (dk dt_X11_fault 5 rfl) rfl rfl ⟨_, rfl, (hw.1 _ _), rfl, H⟩
  · refine j_iload_n (dk dt_X11_fault 6 rfl) rfl ?_
    refine j_iconst (v := Int32.ofInt 1) (dk dt_X11_fault 7 rfl) (by decide) ?_
    refine jz_icmp_ne 27 (dk dt_X11_fault 8 rfl) (by decide) r_x1 (by decide) H (fun H => ?_) (fun H => ?_)
    · refine j_aload_n (dk dt_X11_fault 9 rfl) rfl ?_
      obtain ⟨k_18, H⟩ := H
      refine jz_getO (kz := 0) (dk dt_X11_fault 10 rfl) fl_X11_10 rfl rfl rfl k_18 ?_
      obtain ⟨a_21, e_21, k_21, H⟩ := H
      refine jz_getI (kz := 5) (dk dt_X11_fault 11 rfl) fl_X11_149 rfl rfl e_21 k_21 ?_
      refine j_goto 28 (dk dt_X11_fault 12 rfl) (by decide) ?_
      exact j_el (T_X11_fault_28 (hw.1 _ _) hw   H) trivial
    · refine j_iconst (v := Int32.ofInt (-1)) (dk dt_X11_fault 13 rfl) (by decide) ?_
      exact j_el (T_X11_fault_28 (by decide) hw   H) trivial
def L_X5_add_3  (t0 : Nat) (x1 : Int) (x2 : Int) (z : Z) (P : (Int × Z) ⊕ ((Z)) → Prop) : Prop :=
  (if x2 < 0 then P (.inr z) else (zK z t0 = 6 ∧ (if 400 ≤ zI z t0 3 then P (.inr z) else (∃ a_29, zO z t0 0 = some a_29 ∧ zK z a_29 = 14 ∧ (0 ≤ zI z t0 3 ∧ zI z t0 3 < zN z a_29 ∧ (∀ z_29, z_29 = wI z a_29 (zI z t0 3) (w8 (bShr x1 x2)) → (∀ z_37, z_37 = wI z_29 t0 3 (w32 (zI z_29 t0 3 + 1)) → P (.inl (w32 (x2 + (-8)), z_37)))))))))
theorem U_X5_add_3  {t0 : Nat} {x1 : Int} {x2 : Int} {z : Z} {P : (Int × Z) ⊕ ((Z)) → Prop} {post : Option Sv ⊕ String → Hp → Prop} (r_x1 : R32 x1) (r_x2 : R32 x2) (hw : Wz z)  (hl : ∀ (x2 : Int) (z : Z), P (.inl (x2, z)) → Wz z → R32 x2 → J mX5_add 1 0 0 post 3 [some (vr (some t0)), some (ii (x1)), some (ii (x2))] [] (cz z)) (he0 : ∀ (z : Z), P (.inr z) → Wz z → J mX5_add 1 0 0 post 46 [none, none, none] [] (cz z)) (H : L_X5_add_3 t0 x1 x2 z P) : J mX5_add 1 0 0 post 3 [some (vr (some t0)), some (ii (x1)), some (ii (x2))] [] (cz z) := by
  unfold L_X5_add_3 at H
  refine j_iload_n (dk dt_X5_add 2 rfl) rfl ?_
  refine jz_if_lt 46 (dk dt_X5_add 3 rfl) (by decide) r_x2 H (fun H => ?_) (fun H => ?_)
  · exact j_el (he0 _ H hw) trivial
  · refine j_aload_n (dk dt_X5_add 4 rfl) rfl ?_
    obtain ⟨k_8, H⟩ := H
    refine jz_getI (kz := 3) (dk dt_X5_add 5 rfl) fl_X5_24 rfl rfl rfl k_8 ?_
    refine j_sipush (v := Int32.ofInt 400) (dk dt_X5_add 6 rfl) (by decide) ?_
    refine jz_icmp_ge 46 (dk dt_X5_add 7 rfl) (by decide) (hw.1 _ _) (by decide) H (fun H => ?_) (fun H => ?_)
    · exact j_el (he0 _ H hw) trivial
    · refine j_aload_n (dk dt_X5_add 8 rfl) rfl ?_
      refine jz_getO (kz := 0) (dk dt_X5_add 9 rfl) fl_X5_9 rfl rfl rfl k_8 ?_
      refine j_aload_n (dk dt_X5_add 10 rfl) rfl ?_
      refine jz_getI (kz := 3) (dk dt_X5_add 11 rfl) fl_X5_24 rfl rfl rfl k_8 ?_
      refine j_iload_n (dk dt_X5_add 12 rfl) rfl ?_
      refine j_iload_n (dk dt_X5_add 13 rfl) rfl ?_
      refine jz_ishr (dk dt_X5_add 14 rfl) ?_
      refine jz_i2b (dk dt_X5_add 15 rfl) ?_
      obtain ⟨a_29, e_29, k_29, H⟩ := H
      obtain ⟨p_29, q_29, H⟩ := H
      refine jz_bast (dk dt_X5_add 16 rfl) e_29 k_29 p_29 q_29 hw (b8_w _) (fun w_29 => ?_)
      replace H := H _ rfl
      refine j_aload_n (dk dt_X5_add 17 rfl) rfl ?_
      refine j_dup (dk dt_X5_add 18 rfl) rfl ?_
      refine jz_getI (kz := 3) (dk dt_X5_add 19 rfl) fl_X5_24 rfl rfl rfl k_8 ?_
      refine j_iconst (v := Int32.ofInt 1) (dk dt_X5_add 20 rfl) (by decide) ?_
      refine jz_iadd (dk dt_X5_add 21 rfl) ?_
      refine jz_putI (kz := 3) (dk dt_X5_add 22 rfl) fl_X5_24 rfl rfl rfl rfl rfl k_8 w_29 (r32_w _) (fun w_37 => ?_)
      replace H := H _ rfl
      refine jz_iinc (dk dt_X5_add 23 rfl) rfl ?_
      refine j_goto 3 (dk dt_X5_add 24 rfl) (by decide) ?_
      exact j_el (hl _ _ H w_37 (r32_w _)) (And.intro rfl (And.intro rfl (And.intro rfl trivial)))
def F_X5_add_46  (z : Z) (P : Z → Prop) : Prop :=
  P z
theorem T_X5_add_46  {z : Z} {P : Z → Prop}  (hw : Wz z)   (H : F_X5_add_46 z P) : J mX5_add 1 0 0 (nx (QZV P)) 46 [none, none, none] [] (cz z) := by
  unfold F_X5_add_46 at H
  exact j_return (dk dt_X5_add 25 rfl) rfl ⟨_, rfl, rfl, hw, H⟩
def F_X5_add_3  (t0 : Nat) (x1 : Int) (x2 : Int) (z : Z) (P : Z → Prop) : Prop :=
  lp (S := Int × Z) (E := (Z)) (fun q P_ => L_X5_add_3 t0 x1 q.1 q.2 P_) (x2, z) (fun (z : Z) => F_X5_add_46 z P)
theorem T_X5_add_3  {t0 : Nat} {x1 : Int} {x2 : Int} {z : Z} {P : Z → Prop} (r_x1 : R32 x1) (r_x2 : R32 x2) (hw : Wz z)   (H : F_X5_add_3 t0 x1 x2 z P) : J mX5_add 1 0 0 (nx (QZV P)) 3 [some (vr (some t0)), some (ii (x1)), some (ii (x2))] [] (cz z) := by
  unfold F_X5_add_3 at H
  refine lp_J (G := fun q => Wz (q.2) → R32 (q.1) → J mX5_add 1 0 0 (nx (QZV P)) 3 [some (vr (some t0)), some (ii (x1)), some (ii ((q.1)))] [] (cz (q.2))) (fun q P_ hl_ he_ Hb => ?_) (x2, z) H hw r_x2
  obtain ⟨x2, z⟩ := q
  intro hw r_x2
  refine U_X5_add_3 (P := P_) r_x1 r_x2 hw  (fun x2 z Hp hw r_x2 => hl_ (x2, z) Hp hw r_x2) ?_ Hb
  · intro z Hp hw
    have H := he_ _ Hp
    exact j_el (T_X5_add_46  hw   H) trivial
def F_X5_add  (t0 : Nat) (x1 : Int) (z : Z) (P : Z → Prop) : Prop :=
  F_X5_add_3 t0 x1 24 z P
theorem T_X5_add  {t0 : Nat} {x1 : Int} {z : Z} {P : Z → Prop} (r_x1 : R32 x1) (hw : Wz z)  (H : F_X5_add t0 x1 z P) : Con mX5_add 1 0 0 [vr (some t0), ii (x1)] (cz z) (QZV P) := by
  refine con_of rfl (Nat.le_of_ble_eq_true rfl) (by decide) ?_
  show J mX5_add 1 0 0 _ 0 [some (vr (some t0)), some (ii (x1)), none] [] (cz z)
  unfold F_X5_add at H
  refine j_bipush (v := Int32.ofInt 24) (dk dt_X5_add 0 rfl) (by decide) ?_
  refine j_istore_n (dk dt_X5_add 1 rfl) (by decide) ?_
  exact j_el (T_X5_add_3 r_x1 (by decide) hw   H) (And.intro rfl (And.intro rfl (And.intro rfl trivial)))
def F_X11_feed  (t0 : Nat) (x1 : Int) (x2 : Int) (x3 : Int) (x4 : Int) (x5 : Int) (z : Z) (P : Int → Z → Prop) : Prop :=
  (zK z t0 = 12 ∧ (∃ a_4, zO z t0 0 = some a_4 ∧ zK z a_4 = 6 ∧ (if zI z a_4 3 ≤ 380 then F_X5_add a_4 x1 z (fun z_20 => (zK z_20 t0 = 12 ∧ (∃ a_28, zO z_20 t0 0 = some a_28 ∧ zK z_20 a_28 = 6 ∧ F_X5_add a_28 x2 z_20 (fun z_28 => (zK z_28 t0 = 12 ∧ (∃ a_36, zO z_28 t0 0 = some a_36 ∧ zK z_28 a_36 = 6 ∧ F_X5_add a_36 x3 z_28 (fun z_36 => (zK z_36 t0 = 12 ∧ (∃ a_45, zO z_36 t0 0 = some a_45 ∧ zK z_36 a_45 = 6 ∧ F_X5_add a_45 x4 z_36 (fun z_45 => (zK z_45 t0 = 12 ∧ (∃ a_54, zO z_45 t0 0 = some a_54 ∧ zK z_45 a_54 = 6 ∧ F_X5_add a_54 x5 z_45 (fun z_54 => (zK z_54 t0 = 12 ∧ (∃ a_61, zO z_54 t0 0 = some a_61 ∧ zK z_54 a_61 = 6 ∧ P (zI z_54 a_61 3) z_54))))))))))))))) else P (-1) z)))
theorem T_X11_feed  {t0 : Nat} {x1 : Int} {x2 : Int} {x3 : Int} {x4 : Int} {x5 : Int} {z : Z} {P : Int → Z → Prop} (r_x1 : R32 x1) (r_x2 : R32 x2) (r_x3 : R32 x3) (r_x4 : R32 x4) (r_x5 : R32 x5) (hw : Wz z)  (H : F_X11_feed t0 x1 x2 x3 x4 x5 z P) : Con mX11_feed 2 0 0 [vr (some t0), ii (x1), ii (x2), ii (x3), ii (x4), ii (x5)] (cz z) (QZI P) := by
  refine con_of rfl (Nat.le_of_ble_eq_true rfl) (by decide) ?_
  show J mX11_feed 2 0 0 _ 0 [some (vr (some t0)), some (ii (x1)), some (ii (x2)), some (ii (x3)), some (ii (x4)), some (ii (x5))] [] (cz z)
  unfold F_X11_feed at H
  refine j_aload_n (dk dt_X11_feed 0 rfl) rfl ?_
  obtain ⟨k_1, H⟩ := H
  refine jz_getO (kz := 0) (dk dt_X11_feed 1 rfl) fl_X11_10 rfl rfl rfl k_1 ?_
  obtain ⟨a_4, e_4, k_4, H⟩ := H
  refine jz_getI (kz := 3) (dk dt_X11_feed 2 rfl) fl_X11_108 rfl rfl e_4 k_4 ?_
  refine j_sipush (v := Int32.ofInt 380) (dk dt_X11_feed 3 rfl) (by decide) ?_
  refine jz_icmp_le 15 (dk dt_X11_feed 4 rfl) (by decide) (hw.1 _ _) (by decide) H (fun H => ?_) (fun H => ?_)
  · refine j_aload_n (dk dt_X11_feed 7 rfl) rfl ?_
    refine jz_getO (kz := 0) (dk dt_X11_feed 8 rfl) fl_X11_10 rfl rfl rfl k_1 ?_
    refine j_iload_n (dk dt_X11_feed 9 rfl) rfl ?_
    refine jz_callV1 (dk dt_X11_feed 10 rfl) vl_X11_111 e_4 (T_X5_add r_x1 hw H) k_4 rfl (by decide) (Nat.zero_le _) (Nat.zero_le _) (Nat.le_of_ble_eq_true rfl) (fun v_20 h_20 P_20 => ?_)
    obtain ⟨z_20, rfl, rfl, w_20, H⟩ := P_20
    dsimp only [rs]
    refine j_aload_n (dk dt_X11_feed 11 rfl) rfl ?_
    obtain ⟨k_24, H⟩ := H
    refine jz_getO (kz := 0) (dk dt_X11_feed 12 rfl) fl_X11_10 rfl rfl rfl k_24 ?_
    refine j_iload_n (dk dt_X11_feed 13 rfl) rfl ?_
    obtain ⟨a_28, e_28, k_28, H⟩ := H
    refine jz_callV1 (dk dt_X11_feed 14 rfl) vl_X11_111 e_28 (T_X5_add r_x2 w_20 H) k_28 rfl (by decide) (Nat.zero_le _) (Nat.zero_le _) (Nat.le_of_ble_eq_true rfl) (fun v_28 h_28 P_28 => ?_)
    obtain ⟨z_28, rfl, rfl, w_28, H⟩ := P_28
    dsimp only [rs]
    refine j_aload_n (dk dt_X11_feed 15 rfl) rfl ?_
    obtain ⟨k_32, H⟩ := H
    refine jz_getO (kz := 0) (dk dt_X11_feed 16 rfl) fl_X11_10 rfl rfl rfl k_32 ?_
    refine j_iload_n (dk dt_X11_feed 17 rfl) rfl ?_
    obtain ⟨a_36, e_36, k_36, H⟩ := H
    refine jz_callV1 (dk dt_X11_feed 18 rfl) vl_X11_111 e_36 (T_X5_add r_x3 w_28 H) k_36 rfl (by decide) (Nat.zero_le _) (Nat.zero_le _) (Nat.le_of_ble_eq_true rfl) (fun v_36 h_36 P_36 => ?_)
    obtain ⟨z_36, rfl, rfl, w_36, H⟩ := P_36
    dsimp only [rs]
    refine j_aload_n (dk dt_X11_feed 19 rfl) rfl ?_
    obtain ⟨k_40, H⟩ := H
    refine jz_getO (kz := 0) (dk dt_X11_feed 20 rfl) fl_X11_10 rfl rfl rfl k_40 ?_
    refine j_iload (dk dt_X11_feed 21 rfl) rfl ?_
    obtain ⟨a_45, e_45, k_45, H⟩ := H
    refine jz_callV1 (dk dt_X11_feed 22 rfl) vl_X11_111 e_45 (T_X5_add r_x4 w_36 H) k_45 rfl (by decide) (Nat.zero_le _) (Nat.zero_le _) (Nat.le_of_ble_eq_true rfl) (fun v_45 h_45 P_45 => ?_)
    obtain ⟨z_45, rfl, rfl, w_45, H⟩ := P_45
    dsimp only [rs]
    refine j_aload_n (dk dt_X11_feed 23 rfl) rfl ?_
    obtain ⟨k_49, H⟩ := H
    refine jz_getO (kz := 0) (dk dt_X11_feed 24 rfl) fl_X11_10 rfl rfl rfl k_49 ?_
    refine j_iload (dk dt_X11_feed 25 rfl) rfl ?_
    obtain ⟨a_54, e_54, k_54, H⟩ := H
    refine jz_callV1 (dk dt_X11_feed 26 rfl) vl_X11_111 e_54 (T_X5_add r_x5 w_45 H) k_54 rfl (by decide) (Nat.zero_le _) (Nat.zero_le _) (Nat.le_of_ble_eq_true rfl) (fun v_54 h_54 P_54 => ?_)
    obtain ⟨z_54, rfl, rfl, w_54, H⟩ := P_54
    dsimp only [rs]
    refine j_aload_n (dk dt_X11_feed 27 rfl) rfl ?_
    obtain ⟨k_58, H⟩ := H
    refine jz_getO (kz := 0) (dk dt_X11_feed 28 rfl) fl_X11_10 rfl rfl rfl k_58 ?_
    obtain ⟨a_61, e_61, k_61, H⟩ := H
    refine jz_getI (kz := 3) (dk dt_X11_feed 29 rfl) fl_X11_108 rfl rfl e_61 k_61 ?_
    exact j_ireturn (dk dt_X11_feed 30 rfl) rfl rfl ⟨_, _, rfl, (w_54.1 _ _), rfl, w_54, H⟩
  · refine j_iconst (v := Int32.ofInt (-1)) (dk dt_X11_feed 5 rfl) (by decide) ?_
    exact j_ireturn (dk dt_X11_feed 6 rfl) rfl rfl ⟨_, _, rfl, (by decide), rfl, hw, H⟩
def F_X11_isBusy_23  (s0 : Int) (z : Z) (P : Int → Prop) : Prop :=
  (Z1 s0 ∧ P s0)
theorem T_X11_isBusy_23  {s0 : Int} {z : Z} {P : Int → Prop} (r_s0 : R32 s0) (hw : Wz z)   (H : F_X11_isBusy_23 s0 z P) : J mX11_isBusy 2 0 0 (nx (QPI (cz z) P)) 23 [none] [ii (s0)] (cz z) := by
  unfold F_X11_isBusy_23 at H
  obtain ⟨hz_, H⟩ := H
  exact j_ireturn (dk dt_X11_isBusy 11 rfl) rfl (nar_z hz_) ⟨_, rfl, r_s0, rfl, H⟩
def F_X11_isBusy_18  (z : Z) (P : Int → Prop) : Prop :=
  F_X11_isBusy_23 1 z P
theorem T_X11_isBusy_18  {z : Z} {P : Int → Prop}  (hw : Wz z)   (H : F_X11_isBusy_18 z P) : J mX11_isBusy 2 0 0 (nx (QPI (cz z) P)) 18 [none] [] (cz z) := by
  unfold F_X11_isBusy_18 at H
  refine j_iconst (v := Int32.ofInt 1) (dk dt_X11_isBusy 8 rfl) (by decide) ?_
  refine j_goto 23 (dk dt_X11_isBusy 9 rfl) (by decide) ?_
  exact j_el (T_X11_isBusy_23 (by decide) hw   H) trivial
def F_X11_isBusy  (t0 : Nat) (z : Z) (P : Int → Prop) : Prop :=
  (zK z t0 = 12 ∧ (if zI z t0 13 = (-1) then (∃ a_12, zO z t0 4 = some a_12 ∧ zK z a_12 = 4 ∧ F_X3_unsettled a_12 z (fun x_12 => (if x_12 ≤ 0 then F_X11_isBusy_23 0 z P else F_X11_isBusy_18 z P))) else F_X11_isBusy_18 z P))
theorem T_X11_isBusy  {t0 : Nat} {z : Z} {P : Int → Prop}  (hw : Wz z)  (H : F_X11_isBusy t0 z P) : Con mX11_isBusy 2 0 0 [vr (some t0)] (cz z) (QPI (cz z) P) := by
  refine con_of rfl (Nat.le_of_ble_eq_true rfl) (by decide) ?_
  show J mX11_isBusy 2 0 0 _ 0 [some (vr (some t0))] [] (cz z)
  unfold F_X11_isBusy at H
  refine j_aload_n (dk dt_X11_isBusy 0 rfl) rfl ?_
  obtain ⟨k_1, H⟩ := H
  refine jz_getI (kz := 13) (dk dt_X11_isBusy 1 rfl) fl_X11_77 rfl rfl rfl k_1 ?_
  refine j_iconst (v := Int32.ofInt (-1)) (dk dt_X11_isBusy 2 rfl) (by decide) ?_
  refine jz_icmp_ne 18 (dk dt_X11_isBusy 3 rfl) (by decide) (hw.1 _ _) (by decide) H (fun H => ?_) (fun H => ?_)
  · refine j_aload_n (dk dt_X11_isBusy 4 rfl) rfl ?_
    refine jz_getO (kz := 4) (dk dt_X11_isBusy 5 rfl) fl_X11_46 rfl rfl rfl k_1 ?_
    obtain ⟨a_12, e_12, k_12, H⟩ := H
    refine jz_callV0 (dk dt_X11_isBusy 6 rfl) vl_X11_239 e_12 (T_X3_unsettled hw H) k_12 rfl (by decide) (Nat.zero_le _) (Nat.zero_le _) (Nat.le_of_ble_eq_true rfl) (fun v_12 h_12 P_12 => ?_)
    obtain ⟨x_12, rfl, r_12, rfl, H⟩ := P_12
    dsimp only [rs]
    refine jz_if_le 22 (dk dt_X11_isBusy 7 rfl) (by decide) r_12 H (fun H => ?_) (fun H => ?_)
    · refine j_iconst (v := Int32.ofInt 0) (dk dt_X11_isBusy 10 rfl) (by decide) ?_
      exact j_el (T_X11_isBusy_23 (by decide) hw   H) trivial
    · exact j_el (T_X11_isBusy_18  hw   H) trivial
  · exact j_el (T_X11_isBusy_18  hw   H) trivial
def L_X6_isLike_30  (t0 : Nat) (x1 : Option Nat) (x2 : Int) (z : Z) (P : Int ⊕ ((Unit) ⊕ (Unit)) → Prop) : Prop :=
  (zK z t0 = 7 ∧ (∃ a_35, zO z t0 0 = some a_35 ∧ zK z a_35 = 15 ∧ (if zN z a_35 ≤ x2 then P (.inr (.inl ())) else (0 ≤ x2 ∧ x2 < zN z a_35 ∧ (∃ a_46, x1 = some a_46 ∧ zK z a_46 = 7 ∧ (∃ a_50, zO z a_46 0 = some a_50 ∧ zK z a_50 = 15 ∧ (0 ≤ x2 ∧ x2 < zN z a_50 ∧ (if zI z a_35 x2 = zI z a_50 x2 then P (.inl (w32 (x2 + 1))) else P (.inr (.inr ()))))))))))
theorem U_X6_isLike_30  {t0 : Nat} {x1 : Option Nat} {x2 : Int} {z : Z} {P : Int ⊕ ((Unit) ⊕ (Unit)) → Prop} {post : Option Sv ⊕ String → Hp → Prop} (r_x2 : R32 x2) (hw : Wz z)  (hl : ∀ (x2 : Int), P (.inl x2) → R32 x2 → J mX6_isLike 4 0 0 post 30 [some (vr (some t0)), some (vr (x1)), some (ii (x2))] [] (cz z)) (he0 : P (.inr (.inl ())) → J mX6_isLike 4 0 0 post 62 [some (vr (some t0)), some (vr (x1)), none] [] (cz z)) (he1 : P (.inr (.inr ())) → J mX6_isLike 4 0 0 post 54 [none, none, none] [] (cz z)) (H : L_X6_isLike_30 t0 x1 x2 z P) : J mX6_isLike 4 0 0 post 30 [some (vr (some t0)), some (vr (x1)), some (ii (x2))] [] (cz z) := by
  unfold L_X6_isLike_30 at H
  refine j_iload_n (dk dt_X6_isLike 18 rfl) rfl ?_
  refine j_aload_n (dk dt_X6_isLike 19 rfl) rfl ?_
  obtain ⟨k_32, H⟩ := H
  refine jz_getO (kz := 0) (dk dt_X6_isLike 20 rfl) fl_X6_9 rfl rfl rfl k_32 ?_
  obtain ⟨a_35, e_35, k_35, H⟩ := H
  refine jz_alen (t := 1) (dk dt_X6_isLike 21 rfl) e_35 k_35 (by decide) hw ?_
  refine jz_icmp_ge 62 (dk dt_X6_isLike 22 rfl) (by decide) r_x2 (r32_len hw _) H (fun H => ?_) (fun H => ?_)
  · exact j_el (he0  H ) (And.intro rfl (And.intro rfl trivial))
  · refine j_aload_n (dk dt_X6_isLike 23 rfl) rfl ?_
    refine jz_getO (kz := 0) (dk dt_X6_isLike 24 rfl) fl_X6_9 rfl rfl rfl k_32 ?_
    refine j_iload_n (dk dt_X6_isLike 25 rfl) rfl ?_
    obtain ⟨p_44, q_44, H⟩ := H
    refine jz_iald (dk dt_X6_isLike 26 rfl) e_35 k_35 p_44 q_44 hw ?_
    refine j_aload_n (dk dt_X6_isLike 27 rfl) rfl ?_
    obtain ⟨a_46, e_46, k_46, H⟩ := H
    refine jz_getO (kz := 0) (dk dt_X6_isLike 28 rfl) fl_X6_9 rfl rfl e_46 k_46 ?_
    refine j_iload_n (dk dt_X6_isLike 29 rfl) rfl ?_
    obtain ⟨a_50, e_50, k_50, H⟩ := H
    obtain ⟨p_50, q_50, H⟩ := H
    refine jz_iald (dk dt_X6_isLike 30 rfl) e_50 k_50 p_50 q_50 hw ?_
    refine jz_icmp_eq 56 (dk dt_X6_isLike 31 rfl) (by decide) (hw.1 _ _) (hw.1 _ _) H (fun H => ?_) (fun H => ?_)
    · refine jz_iinc (dk dt_X6_isLike 34 rfl) rfl ?_
      refine j_goto 30 (dk dt_X6_isLike 35 rfl) (by decide) ?_
      exact j_el (hl _ H (r32_w _)) (And.intro rfl (And.intro rfl (And.intro rfl trivial)))
    · exact j_el (he1  H ) trivial
def L_X6_isLike_64  (t0 : Nat) (x1 : Option Nat) (x2 : Int) (z : Z) (P : Int ⊕ ((Unit) ⊕ (Unit)) → Prop) : Prop :=
  (zK z t0 = 7 ∧ (∃ a_69, zO z t0 1 = some a_69 ∧ zK z a_69 = 15 ∧ (if zN z a_69 ≤ x2 then P (.inr (.inl ())) else (0 ≤ x2 ∧ x2 < zN z a_69 ∧ (∃ a_80, x1 = some a_80 ∧ zK z a_80 = 7 ∧ (∃ a_84, zO z a_80 1 = some a_84 ∧ zK z a_84 = 15 ∧ (0 ≤ x2 ∧ x2 < zN z a_84 ∧ (if zI z a_69 x2 = zI z a_84 x2 then P (.inl (w32 (x2 + 1))) else P (.inr (.inr ()))))))))))
theorem U_X6_isLike_64  {t0 : Nat} {x1 : Option Nat} {x2 : Int} {z : Z} {P : Int ⊕ ((Unit) ⊕ (Unit)) → Prop} {post : Option Sv ⊕ String → Hp → Prop} (r_x2 : R32 x2) (hw : Wz z)  (hl : ∀ (x2 : Int), P (.inl x2) → R32 x2 → J mX6_isLike 4 0 0 post 64 [some (vr (some t0)), some (vr (x1)), some (ii (x2))] [] (cz z)) (he0 : P (.inr (.inl ())) → J mX6_isLike 4 0 0 post 96 [some (vr (some t0)), some (vr (x1)), none] [] (cz z)) (he1 : P (.inr (.inr ())) → J mX6_isLike 4 0 0 post 88 [none, none, none] [] (cz z)) (H : L_X6_isLike_64 t0 x1 x2 z P) : J mX6_isLike 4 0 0 post 64 [some (vr (some t0)), some (vr (x1)), some (ii (x2))] [] (cz z) := by
  unfold L_X6_isLike_64 at H
  refine j_iload_n (dk dt_X6_isLike 38 rfl) rfl ?_
  refine j_aload_n (dk dt_X6_isLike 39 rfl) rfl ?_
  obtain ⟨k_66, H⟩ := H
  refine jz_getO (kz := 1) (dk dt_X6_isLike 40 rfl) fl_X6_15 rfl rfl rfl k_66 ?_
  obtain ⟨a_69, e_69, k_69, H⟩ := H
  refine jz_alen (t := 1) (dk dt_X6_isLike 41 rfl) e_69 k_69 (by decide) hw ?_
  refine jz_icmp_ge 96 (dk dt_X6_isLike 42 rfl) (by decide) r_x2 (r32_len hw _) H (fun H => ?_) (fun H => ?_)
  · exact j_el (he0  H ) (And.intro rfl (And.intro rfl trivial))
  · refine j_aload_n (dk dt_X6_isLike 43 rfl) rfl ?_
    refine jz_getO (kz := 1) (dk dt_X6_isLike 44 rfl) fl_X6_15 rfl rfl rfl k_66 ?_
    refine j_iload_n (dk dt_X6_isLike 45 rfl) rfl ?_
    obtain ⟨p_78, q_78, H⟩ := H
    refine jz_iald (dk dt_X6_isLike 46 rfl) e_69 k_69 p_78 q_78 hw ?_
    refine j_aload_n (dk dt_X6_isLike 47 rfl) rfl ?_
    obtain ⟨a_80, e_80, k_80, H⟩ := H
    refine jz_getO (kz := 1) (dk dt_X6_isLike 48 rfl) fl_X6_15 rfl rfl e_80 k_80 ?_
    refine j_iload_n (dk dt_X6_isLike 49 rfl) rfl ?_
    obtain ⟨a_84, e_84, k_84, H⟩ := H
    obtain ⟨p_84, q_84, H⟩ := H
    refine jz_iald (dk dt_X6_isLike 50 rfl) e_84 k_84 p_84 q_84 hw ?_
    refine jz_icmp_eq 90 (dk dt_X6_isLike 51 rfl) (by decide) (hw.1 _ _) (hw.1 _ _) H (fun H => ?_) (fun H => ?_)
    · refine jz_iinc (dk dt_X6_isLike 54 rfl) rfl ?_
      refine j_goto 64 (dk dt_X6_isLike 55 rfl) (by decide) ?_
      exact j_el (hl _ H (r32_w _)) (And.intro rfl (And.intro rfl (And.intro rfl trivial)))
    · exact j_el (he1  H ) trivial
def L_X6_isLike_98  (t0 : Nat) (x1 : Option Nat) (x2 : Int) (z : Z) (P : Int ⊕ ((Unit) ⊕ (Unit)) → Prop) : Prop :=
  (zK z t0 = 7 ∧ (∃ a_103, zO z t0 2 = some a_103 ∧ zK z a_103 = 19 ∧ (if zN z a_103 ≤ x2 then P (.inr (.inl ())) else (0 ≤ x2 ∧ x2 < zN z a_103 ∧ (∃ a_114, x1 = some a_114 ∧ zK z a_114 = 7 ∧ (∃ a_118, zO z a_114 2 = some a_118 ∧ zK z a_118 = 19 ∧ (0 ≤ x2 ∧ x2 < zN z a_118 ∧ F_X1_alike (zO z a_103 x2) (zO z a_118 x2) z (fun x_119 => (if x_119 = 0 then P (.inr (.inr ())) else P (.inl (w32 (x2 + 1))))))))))))
theorem U_X6_isLike_98  {t0 : Nat} {x1 : Option Nat} {x2 : Int} {z : Z} {P : Int ⊕ ((Unit) ⊕ (Unit)) → Prop} {post : Option Sv ⊕ String → Hp → Prop} (r_x2 : R32 x2) (hw : Wz z)  (hl : ∀ (x2 : Int), P (.inl x2) → R32 x2 → J mX6_isLike 4 0 0 post 98 [some (vr (some t0)), some (vr (x1)), some (ii (x2))] [] (cz z)) (he0 : P (.inr (.inl ())) → J mX6_isLike 4 0 0 post 133 [none, none, none] [] (cz z)) (he1 : P (.inr (.inr ())) → J mX6_isLike 4 0 0 post 125 [none, none, none] [] (cz z)) (H : L_X6_isLike_98 t0 x1 x2 z P) : J mX6_isLike 4 0 0 post 98 [some (vr (some t0)), some (vr (x1)), some (ii (x2))] [] (cz z) := by
  unfold L_X6_isLike_98 at H
  refine j_iload_n (dk dt_X6_isLike 58 rfl) rfl ?_
  refine j_aload_n (dk dt_X6_isLike 59 rfl) rfl ?_
  obtain ⟨k_100, H⟩ := H
  refine jz_getO (kz := 2) (dk dt_X6_isLike 60 rfl) fl_X6_20 rfl rfl rfl k_100 ?_
  obtain ⟨a_103, e_103, k_103, H⟩ := H
  refine jz_alen (t := 5) (dk dt_X6_isLike 61 rfl) e_103 k_103 (by decide) hw ?_
  refine jz_icmp_ge 133 (dk dt_X6_isLike 62 rfl) (by decide) r_x2 (r32_len hw _) H (fun H => ?_) (fun H => ?_)
  · exact j_el (he0  H ) trivial
  · refine j_aload_n (dk dt_X6_isLike 63 rfl) rfl ?_
    refine jz_getO (kz := 2) (dk dt_X6_isLike 64 rfl) fl_X6_20 rfl rfl rfl k_100 ?_
    refine j_iload_n (dk dt_X6_isLike 65 rfl) rfl ?_
    obtain ⟨p_112, q_112, H⟩ := H
    refine jz_aald (t := 5) (dk dt_X6_isLike 66 rfl) e_103 k_103 (by decide) (by decide) p_112 q_112 hw ?_
    refine j_aload_n (dk dt_X6_isLike 67 rfl) rfl ?_
    obtain ⟨a_114, e_114, k_114, H⟩ := H
    refine jz_getO (kz := 2) (dk dt_X6_isLike 68 rfl) fl_X6_20 rfl rfl e_114 k_114 ?_
    refine j_iload_n (dk dt_X6_isLike 69 rfl) rfl ?_
    obtain ⟨a_118, e_118, k_118, H⟩ := H
    obtain ⟨p_118, q_118, H⟩ := H
    refine jz_aald (t := 5) (dk dt_X6_isLike 70 rfl) e_118 k_118 (by decide) (by decide) p_118 q_118 hw ?_
    refine j_callS2 (dk dt_X6_isLike 71 rfl) sl_X6_47 (T_X1_alike hw H) rfl (by decide) (Nat.zero_le _) (Nat.zero_le _) (Nat.le_of_ble_eq_true rfl) (fun v_119 h_119 P_119 => ?_)
    obtain ⟨x_119, rfl, r_119, rfl, H⟩ := P_119
    dsimp only [rs]
    refine jz_if_ne 127 (dk dt_X6_isLike 72 rfl) (by decide) r_119 H (fun H => ?_) (fun H => ?_)
    · exact j_el (he1  H ) trivial
    · refine jz_iinc (dk dt_X6_isLike 75 rfl) rfl ?_
      refine j_goto 98 (dk dt_X6_isLike 76 rfl) (by decide) ?_
      exact j_el (hl _ H (r32_w _)) (And.intro rfl (And.intro rfl (And.intro rfl trivial)))
def F_X6_isLike_98  (t0 : Nat) (x1 : Option Nat) (x2 : Int) (z : Z) (P : Int → Prop) : Prop :=
  lp (S := Int) (E := (Unit) ⊕ (Unit)) (fun q P_ => L_X6_isLike_98 t0 x1 q z P_) x2 (fun e => match e with | (.inl _) => P 1 | (.inr _) => P 0)
theorem T_X6_isLike_98  {t0 : Nat} {x1 : Option Nat} {x2 : Int} {z : Z} {P : Int → Prop} (r_x2 : R32 x2) (hw : Wz z)   (H : F_X6_isLike_98 t0 x1 x2 z P) : J mX6_isLike 4 0 0 (nx (QPI (cz z) P)) 98 [some (vr (some t0)), some (vr (x1)), some (ii (x2))] [] (cz z) := by
  unfold F_X6_isLike_98 at H
  refine lp_J (G := fun q => R32 (q) → J mX6_isLike 4 0 0 (nx (QPI (cz z) P)) 98 [some (vr (some t0)), some (vr (x1)), some (ii ((q)))] [] (cz z)) (fun x2 P_ hl_ he_ Hb => ?_) x2 H r_x2
  intro r_x2
  refine U_X6_isLike_98 (P := P_) r_x2 hw  (fun x2 Hp r_x2 => hl_ x2 Hp r_x2) ?_ ?_ Hb
  · intro Hp
    have H := he_ _ Hp
    refine j_iconst (v := Int32.ofInt 1) (dk dt_X6_isLike 77 rfl) (by decide) ?_
    exact j_ireturn (dk dt_X6_isLike 78 rfl) rfl (nar_z (by decide)) ⟨_, rfl, (by decide), rfl, H⟩
  · intro Hp
    have H := he_ _ Hp
    refine j_iconst (v := Int32.ofInt 0) (dk dt_X6_isLike 73 rfl) (by decide) ?_
    exact j_ireturn (dk dt_X6_isLike 74 rfl) rfl (nar_z (by decide)) ⟨_, rfl, (by decide), rfl, H⟩
def F_X6_isLike_64  (t0 : Nat) (x1 : Option Nat) (x2 : Int) (z : Z) (P : Int → Prop) : Prop :=
  lp (S := Int) (E := (Unit) ⊕ (Unit)) (fun q P_ => L_X6_isLike_64 t0 x1 q z P_) x2 (fun e => match e with | (.inl _) => F_X6_isLike_98 t0 x1 0 z P | (.inr _) => P 0)
theorem T_X6_isLike_64  {t0 : Nat} {x1 : Option Nat} {x2 : Int} {z : Z} {P : Int → Prop} (r_x2 : R32 x2) (hw : Wz z)   (H : F_X6_isLike_64 t0 x1 x2 z P) : J mX6_isLike 4 0 0 (nx (QPI (cz z) P)) 64 [some (vr (some t0)), some (vr (x1)), some (ii (x2))] [] (cz z) := by
  unfold F_X6_isLike_64 at H
  refine lp_J (G := fun q => R32 (q) → J mX6_isLike 4 0 0 (nx (QPI (cz z) P)) 64 [some (vr (some t0)), some (vr (x1)), some (ii ((q)))] [] (cz z)) (fun x2 P_ hl_ he_ Hb => ?_) x2 H r_x2
  intro r_x2
  refine U_X6_isLike_64 (P := P_) r_x2 hw  (fun x2 Hp r_x2 => hl_ x2 Hp r_x2) ?_ ?_ Hb
  · intro Hp
    have H := he_ _ Hp
    refine j_iconst (v := Int32.ofInt 0) (dk dt_X6_isLike 56 rfl) (by decide) ?_
    refine j_istore_n (dk dt_X6_isLike 57 rfl) (by decide) ?_
    exact j_el (T_X6_isLike_98 (by decide) hw   H) (And.intro rfl (And.intro rfl (And.intro rfl trivial)))
  · intro Hp
    have H := he_ _ Hp
    refine j_iconst (v := Int32.ofInt 0) (dk dt_X6_isLike 52 rfl) (by decide) ?_
    exact j_ireturn (dk dt_X6_isLike 53 rfl) rfl (nar_z (by decide)) ⟨_, rfl, (by decide), rfl, H⟩
def F_X6_isLike_30  (t0 : Nat) (x1 : Option Nat) (x2 : Int) (z : Z) (P : Int → Prop) : Prop :=
  lp (S := Int) (E := (Unit) ⊕ (Unit)) (fun q P_ => L_X6_isLike_30 t0 x1 q z P_) x2 (fun e => match e with | (.inl _) => F_X6_isLike_64 t0 x1 0 z P | (.inr _) => P 0)
theorem T_X6_isLike_30  {t0 : Nat} {x1 : Option Nat} {x2 : Int} {z : Z} {P : Int → Prop} (r_x2 : R32 x2) (hw : Wz z)   (H : F_X6_isLike_30 t0 x1 x2 z P) : J mX6_isLike 4 0 0 (nx (QPI (cz z) P)) 30 [some (vr (some t0)), some (vr (x1)), some (ii (x2))] [] (cz z) := by
  unfold F_X6_isLike_30 at H
  refine lp_J (G := fun q => R32 (q) → J mX6_isLike 4 0 0 (nx (QPI (cz z) P)) 30 [some (vr (some t0)), some (vr (x1)), some (ii ((q)))] [] (cz z)) (fun x2 P_ hl_ he_ Hb => ?_) x2 H r_x2
  intro r_x2
  refine U_X6_isLike_30 (P := P_) r_x2 hw  (fun x2 Hp r_x2 => hl_ x2 Hp r_x2) ?_ ?_ Hb
  · intro Hp
    have H := he_ _ Hp
    refine j_iconst (v := Int32.ofInt 0) (dk dt_X6_isLike 36 rfl) (by decide) ?_
    refine j_istore_n (dk dt_X6_isLike 37 rfl) (by decide) ?_
    exact j_el (T_X6_isLike_64 (by decide) hw   H) (And.intro rfl (And.intro rfl (And.intro rfl trivial)))
  · intro Hp
    have H := he_ _ Hp
    refine j_iconst (v := Int32.ofInt 0) (dk dt_X6_isLike 32 rfl) (by decide) ?_
    exact j_ireturn (dk dt_X6_isLike 33 rfl) rfl (nar_z (by decide)) ⟨_, rfl, (by decide), rfl, H⟩
def F_X6_isLike_26  (z : Z) (P : Int → Prop) : Prop :=
  P 0
theorem T_X6_isLike_26  {z : Z} {P : Int → Prop}  (hw : Wz z)   (H : F_X6_isLike_26 z P) : J mX6_isLike 4 0 0 (nx (QPI (cz z) P)) 26 [none, none, none] [] (cz z) := by
  unfold F_X6_isLike_26 at H
  refine j_iconst (v := Int32.ofInt 0) (dk dt_X6_isLike 14 rfl) (by decide) ?_
  exact j_ireturn (dk dt_X6_isLike 15 rfl) rfl (nar_z (by decide)) ⟨_, rfl, (by decide), rfl, H⟩
def F_X6_isLike  (t0 : Nat) (x1 : Option Nat) (z : Z) (P : Int → Prop) : Prop :=
  (zK z t0 = 7 ∧ (∃ a_4, zO z t0 0 = some a_4 ∧ zK z a_4 = 15 ∧ (∃ a_6, x1 = some a_6 ∧ zK z a_6 = 7 ∧ (∃ a_9, zO z a_6 0 = some a_9 ∧ zK z a_9 = 15 ∧ (if zN z a_4 = zN z a_9 then (∃ a_17, zO z t0 1 = some a_17 ∧ zK z a_17 = 15 ∧ (∃ a_22, zO z a_6 1 = some a_22 ∧ zK z a_22 = 15 ∧ (if zN z a_17 = zN z a_22 then F_X6_isLike_30 t0 x1 0 z P else F_X6_isLike_26 z P))) else F_X6_isLike_26 z P)))))
theorem T_X6_isLike  {t0 : Nat} {x1 : Option Nat} {z : Z} {P : Int → Prop}  (hw : Wz z)  (H : F_X6_isLike t0 x1 z P) : Con mX6_isLike 4 0 0 [vr (some t0), vr (x1)] (cz z) (QPI (cz z) P) := by
  refine con_of rfl (Nat.le_of_ble_eq_true rfl) (by decide) ?_
  show J mX6_isLike 4 0 0 _ 0 [some (vr (some t0)), some (vr (x1)), none] [] (cz z)
  unfold F_X6_isLike at H
  refine j_aload_n (dk dt_X6_isLike 0 rfl) rfl ?_
  obtain ⟨k_1, H⟩ := H
  refine jz_getO (kz := 0) (dk dt_X6_isLike 1 rfl) fl_X6_9 rfl rfl rfl k_1 ?_
  obtain ⟨a_4, e_4, k_4, H⟩ := H
  refine jz_alen (t := 1) (dk dt_X6_isLike 2 rfl) e_4 k_4 (by decide) hw ?_
  refine j_aload_n (dk dt_X6_isLike 3 rfl) rfl ?_
  obtain ⟨a_6, e_6, k_6, H⟩ := H
  refine jz_getO (kz := 0) (dk dt_X6_isLike 4 rfl) fl_X6_9 rfl rfl e_6 k_6 ?_
  obtain ⟨a_9, e_9, k_9, H⟩ := H
  refine jz_alen (t := 1) (dk dt_X6_isLike 5 rfl) e_9 k_9 (by decide) hw ?_
  refine jz_icmp_ne 26 (dk dt_X6_isLike 6 rfl) (by decide) (r32_len hw _) (r32_len hw _) H (fun H => ?_) (fun H => ?_)
  · refine j_aload_n (dk dt_X6_isLike 7 rfl) rfl ?_
    refine jz_getO (kz := 1) (dk dt_X6_isLike 8 rfl) fl_X6_15 rfl rfl rfl k_1 ?_
    obtain ⟨a_17, e_17, k_17, H⟩ := H
    refine jz_alen (t := 1) (dk dt_X6_isLike 9 rfl) e_17 k_17 (by decide) hw ?_
    refine j_aload_n (dk dt_X6_isLike 10 rfl) rfl ?_
    refine jz_getO (kz := 1) (dk dt_X6_isLike 11 rfl) fl_X6_15 rfl rfl e_6 k_6 ?_
    obtain ⟨a_22, e_22, k_22, H⟩ := H
    refine jz_alen (t := 1) (dk dt_X6_isLike 12 rfl) e_22 k_22 (by decide) hw ?_
    refine jz_icmp_eq 28 (dk dt_X6_isLike 13 rfl) (by decide) (r32_len hw _) (r32_len hw _) H (fun H => ?_) (fun H => ?_)
    · refine j_iconst (v := Int32.ofInt 0) (dk dt_X6_isLike 16 rfl) (by decide) ?_
      refine j_istore_n (dk dt_X6_isLike 17 rfl) (by decide) ?_
      exact j_el (T_X6_isLike_30 (by decide) hw   H) (And.intro rfl (And.intro rfl (And.intro rfl trivial)))
    · exact j_el (T_X6_isLike_26  hw   H) trivial
  · exact j_el (T_X6_isLike_26  hw   H) trivial
def F_X11_isLikeHead_32  (s0 : Int) (z : Z) (P : Int → Prop) : Prop :=
  (Z1 s0 ∧ P s0)
theorem T_X11_isLikeHead_32  {s0 : Int} {z : Z} {P : Int → Prop} (r_s0 : R32 s0) (hw : Wz z)   (H : F_X11_isLikeHead_32 s0 z P) : J mX11_isLikeHead 5 0 0 (nx (QPI (cz z) P)) 32 [none, none] [ii (s0)] (cz z) := by
  unfold F_X11_isLikeHead_32 at H
  obtain ⟨hz_, H⟩ := H
  exact j_ireturn (dk dt_X11_isLikeHead 16 rfl) rfl (nar_z hz_) ⟨_, rfl, r_s0, rfl, H⟩
def F_X11_isLikeHead_31  (z : Z) (P : Int → Prop) : Prop :=
  F_X11_isLikeHead_32 0 z P
theorem T_X11_isLikeHead_31  {z : Z} {P : Int → Prop}  (hw : Wz z)   (H : F_X11_isLikeHead_31 z P) : J mX11_isLikeHead 5 0 0 (nx (QPI (cz z) P)) 31 [none, none] [] (cz z) := by
  unfold F_X11_isLikeHead_31 at H
  refine j_iconst (v := Int32.ofInt 0) (dk dt_X11_isLikeHead 15 rfl) (by decide) ?_
  exact j_el (T_X11_isLikeHead_32 (by decide) hw   H) trivial
def F_X11_isLikeHead  (t0 : Nat) (z : Z) (P : Int → Prop) : Prop :=
  (zK z t0 = 12 ∧ F_X11_head t0 z (fun x_5 => (∃ a_8, zO z t0 2 = some a_8 ∧ zK z a_8 = 3 ∧ F_X2_at a_8 x_5 z (fun x_8 => (if x_8 = none then F_X11_isLikeHead_31 z P else (∃ a_21, zO z t0 11 = some a_21 ∧ zK z a_21 = 7 ∧ F_X6_isLike a_21 x_8 z (fun x_21 => (if x_21 = 0 then F_X11_isLikeHead_31 z P else F_X11_isLikeHead_32 1 z P))))))))
theorem T_X11_isLikeHead  {t0 : Nat} {z : Z} {P : Int → Prop}  (hw : Wz z)  (H : F_X11_isLikeHead t0 z P) : Con mX11_isLikeHead 5 0 0 [vr (some t0)] (cz z) (QPI (cz z) P) := by
  refine con_of rfl (Nat.le_of_ble_eq_true rfl) (by decide) ?_
  show J mX11_isLikeHead 5 0 0 _ 0 [some (vr (some t0)), none] [] (cz z)
  unfold F_X11_isLikeHead at H
  refine j_aload_n (dk dt_X11_isLikeHead 0 rfl) rfl ?_
  obtain ⟨k_1, H⟩ := H
  refine jz_getO (kz := 2) (dk dt_X11_isLikeHead 1 rfl) fl_X11_26 rfl rfl rfl k_1 ?_
  refine j_aload_n (dk dt_X11_isLikeHead 2 rfl) rfl ?_
  refine jz_callV0 (dk dt_X11_isLikeHead 3 rfl) vl_X11_249 rfl (T_X11_head hw H) k_1 rfl (by decide) (Nat.zero_le _) (Nat.zero_le _) (Nat.le_of_ble_eq_true rfl) (fun v_5 h_5 P_5 => ?_)
  obtain ⟨x_5, rfl, r_5, rfl, H⟩ := P_5
  dsimp only [rs]
  obtain ⟨a_8, e_8, k_8, H⟩ := H
  refine jz_callV1 (dk dt_X11_isLikeHead 4 rfl) vl_X11_269 e_8 (T_X2_at r_5 hw H) k_8 rfl (by decide) (Nat.zero_le _) (Nat.zero_le _) (Nat.le_of_ble_eq_true rfl) (fun v_8 h_8 P_8 => ?_)
  obtain ⟨x_8, rfl, rfl, H⟩ := P_8
  dsimp only [rs]
  refine j_astore_n (dk dt_X11_isLikeHead 5 rfl) (by decide) ?_
  refine j_aload_n (dk dt_X11_isLikeHead 6 rfl) rfl ?_
  refine jz_ifnull 31 (dk dt_X11_isLikeHead 7 rfl) (by decide) H (fun H => ?_) (fun H => ?_)
  · exact j_el (T_X11_isLikeHead_31  hw   H) trivial
  · refine j_aload_n (dk dt_X11_isLikeHead 8 rfl) rfl ?_
    refine jz_getO (kz := 11) (dk dt_X11_isLikeHead 9 rfl) fl_X11_104 rfl rfl rfl k_1 ?_
    refine j_aload_n (dk dt_X11_isLikeHead 10 rfl) rfl ?_
    obtain ⟨a_21, e_21, k_21, H⟩ := H
    refine jz_callV1 (dk dt_X11_isLikeHead 11 rfl) vl_X11_398 e_21 (T_X6_isLike hw H) k_21 rfl (by decide) (Nat.zero_le _) (Nat.zero_le _) (Nat.le_of_ble_eq_true rfl) (fun v_21 h_21 P_21 => ?_)
    obtain ⟨x_21, rfl, r_21, rfl, H⟩ := P_21
    dsimp only [rs]
    refine jz_if_eq 31 (dk dt_X11_isLikeHead 12 rfl) (by decide) r_21 H (fun H => ?_) (fun H => ?_)
    · exact j_el (T_X11_isLikeHead_31  hw   H) trivial
    · refine j_iconst (v := Int32.ofInt 1) (dk dt_X11_isLikeHead 13 rfl) (by decide) ?_
      refine j_goto 32 (dk dt_X11_isLikeHead 14 rfl) (by decide) ?_
      exact j_el (T_X11_isLikeHead_32 (by decide) hw   H) trivial
