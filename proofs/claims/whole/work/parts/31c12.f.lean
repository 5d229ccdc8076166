def F_X9_push_144  (z : Z) (P : Z → Prop) : Prop :=
  P z
theorem T_X9_push_144  {z : Z} {P : Z → Prop}  (hw : Wz z)   (H : F_X9_push_144 z P) : J mX9_push 6 0 0 (nx (QZV P)) 144 [none, none, none, none] [] (cz z) := by
  unfold F_X9_push_144 at H
  exact j_return (dk dt_X9_push 73 rfl) rfl ⟨_, rfl, rfl, hw, H⟩
def F_X9_push_86  (x2 : Int) (x3 : Option Nat) (z : Z) (P : Z → Prop) : Prop :=
  (∃ a_91, x3 = some a_91 ∧ zK z a_91 = 9 ∧ F_X8_set a_91 6 x2 z (fun z_91 => F_X9_push_144 z_91 P))
theorem T_X9_push_86  {x2 : Int} {x3 : Option Nat} {z : Z} {P : Z → Prop} (r_x2 : R32 x2) (hw : Wz z)   (H : F_X9_push_86 x2 x3 z P) : J mX9_push 6 0 0 (nx (QZV P)) 86 [none, none, some (ii (x2)), some (vr (x3))] [] (cz z) := by
  unfold F_X9_push_86 at H
  refine j_aload_n (dk dt_X9_push 43 rfl) rfl ?_
  refine j_bipush (v := Int32.ofInt 6) (dk dt_X9_push 44 rfl) (by decide) ?_
  refine j_iload_n (dk dt_X9_push 45 rfl) rfl ?_
  refine jz_i2l (dk dt_X9_push 46 rfl) r_x2 ?_
  obtain ⟨a_91, e_91, k_91, H⟩ := H
  refine jz_callV2 (dk dt_X9_push 47 rfl) vl_X9_145 e_91 (T_X8_set (by decide) (r64_3 r_x2) hw H) k_91 rfl (by decide) (Nat.zero_le _) (Nat.zero_le _) (Nat.le_of_ble_eq_true rfl) (fun v_91 h_91 P_91 => ?_)
  obtain ⟨z_91, rfl, rfl, w_91, H⟩ := P_91
  dsimp only [rs]
  refine j_goto 144 (dk dt_X9_push 48 rfl) (by decide) ?_
  exact j_el (T_X9_push_144  w_91   H) trivial
def F_X9_push_133  (x3 : Option Nat) (z : Z) (P : Z → Prop) : Prop :=
  (∃ a_136, x3 = some a_136 ∧ zK z a_136 = 9 ∧ F_X8_set a_136 4 1 z (fun z_136 => (∃ a_141, x3 = some a_141 ∧ zK z_136 a_141 = 9 ∧ (∀ z_141, z_141 = wI z_136 a_141 3 1 → F_X9_push_144 z_141 P))))
theorem T_X9_push_133  {x3 : Option Nat} {z : Z} {P : Z → Prop}  (hw : Wz z)   (H : F_X9_push_133 x3 z P) : J mX9_push 6 0 0 (nx (QZV P)) 133 [none, none, none, some (vr (x3))] [] (cz z) := by
  unfold F_X9_push_133 at H
  refine j_aload_n (dk dt_X9_push 66 rfl) rfl ?_
  refine j_iconst (v := Int32.ofInt 4) (dk dt_X9_push 67 rfl) (by decide) ?_
  refine j_lconst (v := Int64.ofInt 1) (dk dt_X9_push 68 rfl) (by decide) ?_
  obtain ⟨a_136, e_136, k_136, H⟩ := H
  refine jz_callV2 (dk dt_X9_push 69 rfl) vl_X9_145 e_136 (T_X8_set (by decide) (by decide) hw H) k_136 rfl (by decide) (Nat.zero_le _) (Nat.zero_le _) (Nat.le_of_ble_eq_true rfl) (fun v_136 h_136 P_136 => ?_)
  obtain ⟨z_136, rfl, rfl, w_136, H⟩ := P_136
  dsimp only [rs]
  refine j_aload_n (dk dt_X9_push 70 rfl) rfl ?_
  refine j_iconst (v := Int32.ofInt 1) (dk dt_X9_push 71 rfl) (by decide) ?_
  obtain ⟨a_141, e_141, k_141, H⟩ := H
  refine jz_putI (kz := 3) (dk dt_X9_push 72 rfl) fl_X9_205 rfl (nar_z (by decide)) (fit_z (by decide)) rfl e_141 k_141 w_136 (by decide) (fun w_141 => ?_)
  replace H := H _ rfl
  exact j_el (T_X9_push_144  w_141   H) trivial
def F_X9_push_97  (t0 : Nat) (x1 : Option Nat) (x3 : Option Nat) (z : Z) (P : Z → Prop) : Prop :=
  (∃ a_98, x1 = some a_98 ∧ zK z a_98 = 5 ∧ (if zI z a_98 0 = 16 then (zK z t0 = 10 ∧ F_X9_finds t0 x1 z (fun x_108 z_108 => (if x_108 = 0 then F_X9_push_133 x3 z_108 P else (zK z_108 t0 = 10 ∧ F_X9_met t0 (zI z_108 t0 12) (zI z_108 t0 14) z_108 (fun x_124 => (∃ a_127, x3 = some a_127 ∧ zK z_108 a_127 = 9 ∧ F_X8_take a_127 x_124 z_108 (fun z_127 => F_X9_push_144 z_127 P))))))) else F_X9_push_133 x3 z P))
theorem T_X9_push_97  {t0 : Nat} {x1 : Option Nat} {x3 : Option Nat} {z : Z} {P : Z → Prop}  (hw : Wz z)   (H : F_X9_push_97 t0 x1 x3 z P) : J mX9_push 6 0 0 (nx (QZV P)) 97 [some (vr (some t0)), some (vr (x1)), none, some (vr (x3))] [] (cz z) := by
  unfold F_X9_push_97 at H
  refine j_aload_n (dk dt_X9_push 49 rfl) rfl ?_
  obtain ⟨a_98, e_98, k_98, H⟩ := H
  refine jz_getI (kz := 0) (dk dt_X9_push 50 rfl) fl_X9_91 rfl rfl e_98 k_98 ?_
  refine j_bipush (v := Int32.ofInt 16) (dk dt_X9_push 51 rfl) (by decide) ?_
  refine jz_icmp_ne 133 (dk dt_X9_push 52 rfl) (by decide) (hw.1 _ _) (by decide) H (fun H => ?_) (fun H => ?_)
  · refine j_aload_n (dk dt_X9_push 53 rfl) rfl ?_
    refine j_aload_n (dk dt_X9_push 54 rfl) rfl ?_
    obtain ⟨k_108, H⟩ := H
    refine jz_callV1 (dk dt_X9_push 55 rfl) vl_X9_111 rfl (T_X9_finds hw H) k_108 rfl (by decide) (Nat.zero_le _) (Nat.zero_le _) (Nat.le_of_ble_eq_true rfl) (fun v_108 h_108 P_108 => ?_)
    obtain ⟨x_108, z_108, rfl, r_108, rfl, w_108, H⟩ := P_108
    dsimp only [rs]
    refine jz_if_eq 133 (dk dt_X9_push 56 rfl) (by decide) r_108 H (fun H => ?_) (fun H => ?_)
    · exact j_el (T_X9_push_133  w_108   H) (And.intro rfl trivial)
    · refine j_aload_n (dk dt_X9_push 57 rfl) rfl ?_
      refine j_aload_n (dk dt_X9_push 58 rfl) rfl ?_
      refine j_aload_n (dk dt_X9_push 59 rfl) rfl ?_
      obtain ⟨k_117, H⟩ := H
      refine jz_getI (kz := 12) (dk dt_X9_push 60 rfl) fl_X9_115 rfl rfl rfl k_117 ?_
      refine j_aload_n (dk dt_X9_push 61 rfl) rfl ?_
      refine jz_getI (kz := 14) (dk dt_X9_push 62 rfl) fl_X9_121 rfl rfl rfl k_117 ?_
      refine jz_callV2 (dk dt_X9_push 63 rfl) vl_X9_201 rfl (T_X9_met (w_108.1 _ _) (w_108.1 _ _) w_108 H) k_117 rfl (by decide) (Nat.zero_le _) (Nat.zero_le _) (Nat.le_of_ble_eq_true rfl) (fun v_124 h_124 P_124 => ?_)
      obtain ⟨x_124, rfl, rfl, H⟩ := P_124
      dsimp only [rs]
      obtain ⟨a_127, e_127, k_127, H⟩ := H
      refine jz_callV1 (dk dt_X9_push 64 rfl) vl_X9_195 e_127 (T_X8_take w_108 H) k_127 rfl (by decide) (Nat.zero_le _) (Nat.zero_le _) (Nat.le_of_ble_eq_true rfl) (fun v_127 h_127 P_127 => ?_)
      obtain ⟨z_127, rfl, rfl, w_127, H⟩ := P_127
      dsimp only [rs]
      refine j_goto 144 (dk dt_X9_push 65 rfl) (by decide) ?_
      exact j_el (T_X9_push_144  w_127   H) trivial
  · exact j_el (T_X9_push_133  hw   H) (And.intro rfl trivial)
def F_X9_push_60  (t0 : Nat) (x1 : Option Nat) (x2 : Int) (x3 : Option Nat) (z : Z) (P : Z → Prop) : Prop :=
  (∃ a_61, x1 = some a_61 ∧ zK z a_61 = 5 ∧ (if zI z a_61 0 = 17 then F_X9_push_86 x2 x3 z P else (if zI z a_61 0 = 16 then (zK z t0 = 10 ∧ F_X9_standsAlone t0 x2 z (fun x_80 => (if x_80 = 0 then F_X9_push_97 t0 x1 x3 z P else F_X9_push_86 x2 x3 z P))) else F_X9_push_97 t0 x1 x3 z P)))
theorem T_X9_push_60  {t0 : Nat} {x1 : Option Nat} {x2 : Int} {x3 : Option Nat} {z : Z} {P : Z → Prop} (r_x2 : R32 x2) (hw : Wz z)   (H : F_X9_push_60 t0 x1 x2 x3 z P) : J mX9_push 6 0 0 (nx (QZV P)) 60 [some (vr (some t0)), some (vr (x1)), some (ii (x2)), some (vr (x3))] [] (cz z) := by
  unfold F_X9_push_60 at H
  refine j_aload_n (dk dt_X9_push 31 rfl) rfl ?_
  obtain ⟨a_61, e_61, k_61, H⟩ := H
  refine jz_getI (kz := 0) (dk dt_X9_push 32 rfl) fl_X9_91 rfl rfl e_61 k_61 ?_
  refine j_bipush (v := Int32.ofInt 17) (dk dt_X9_push 33 rfl) (by decide) ?_
  refine jz_icmp_eq 86 (dk dt_X9_push 34 rfl) (by decide) (hw.1 _ _) (by decide) H (fun H => ?_) (fun H => ?_)
  · exact j_el (T_X9_push_86 r_x2 hw   H) (And.intro rfl (And.intro rfl trivial))
  · refine j_aload_n (dk dt_X9_push 35 rfl) rfl ?_
    refine jz_getI (kz := 0) (dk dt_X9_push 36 rfl) fl_X9_91 rfl rfl e_61 k_61 ?_
    refine j_bipush (v := Int32.ofInt 16) (dk dt_X9_push 37 rfl) (by decide) ?_
    refine jz_icmp_ne 97 (dk dt_X9_push 38 rfl) (by decide) (hw.1 _ _) (by decide) H (fun H => ?_) (fun H => ?_)
    · refine j_aload_n (dk dt_X9_push 39 rfl) rfl ?_
      refine j_iload_n (dk dt_X9_push 40 rfl) rfl ?_
      obtain ⟨k_80, H⟩ := H
      refine jz_callV1 (dk dt_X9_push 41 rfl) vl_X9_107 rfl (T_X9_standsAlone r_x2 hw H) k_80 rfl (by decide) (Nat.zero_le _) (Nat.zero_le _) (Nat.le_of_ble_eq_true rfl) (fun v_80 h_80 P_80 => ?_)
      obtain ⟨x_80, rfl, r_80, rfl, H⟩ := P_80
      dsimp only [rs]
      refine jz_if_eq 97 (dk dt_X9_push 42 rfl) (by decide) r_80 H (fun H => ?_) (fun H => ?_)
      · exact j_el (T_X9_push_97  hw   H) (And.intro rfl (And.intro rfl (And.intro rfl trivial)))
      · exact j_el (T_X9_push_86 r_x2 hw   H) (And.intro rfl (And.intro rfl trivial))
    · exact j_el (T_X9_push_97  hw   H) (And.intro rfl (And.intro rfl (And.intro rfl trivial)))
def F_X9_push  (t0 : Nat) (x1 : Option Nat) (x2 : Int) (z : Z) (P : Z → Prop) : Prop :=
  (zK z t0 = 10 ∧ (∃ a_8, zO z t0 1 = some a_8 ∧ zK z a_8 = 22 ∧ (if zI z t0 10 < zN z a_8 then (0 ≤ zI z t0 10 ∧ zI z t0 10 < zN z a_8 ∧ (∀ z_30, z_30 = wI z t0 10 (w32 (zI z t0 10 + 1)) → (∃ a_34, x1 = some a_34 ∧ zK z_30 a_34 = 5 ∧ (if zI z_30 a_34 0 = 14 then (if zO z_30 a_34 2 = none then F_X9_push_60 t0 x1 x2 (zO z a_8 (zI z t0 10)) z_30 P else (∃ a_54, zO z a_8 (zI z t0 10) = some a_54 ∧ zK z_30 a_54 = 9 ∧ F_X8_take a_54 (zO z_30 a_34 2) z_30 (fun z_54 => F_X9_push_144 z_54 P))) else F_X9_push_60 t0 x1 x2 (zO z a_8 (zI z t0 10)) z_30 P)))) else P z)))
theorem T_X9_push  {t0 : Nat} {x1 : Option Nat} {x2 : Int} {z : Z} {P : Z → Prop} (r_x2 : R32 x2) (hw : Wz z)  (H : F_X9_push t0 x1 x2 z P) : Con mX9_push 6 0 0 [vr (some t0), vr (x1), ii (x2)] (cz z) (QZV P) := by
  refine con_of rfl (Nat.le_of_ble_eq_true rfl) (by decide) ?_
  show J mX9_push 6 0 0 _ 0 [some (vr (some t0)), some (vr (x1)), some (ii (x2)), none] [] (cz z)
  unfold F_X9_push at H
  refine j_aload_n (dk dt_X9_push 0 rfl) rfl ?_
  obtain ⟨k_1, H⟩ := H
  refine jz_getI (kz := 10) (dk dt_X9_push 1 rfl) fl_X9_161 rfl rfl rfl k_1 ?_
  refine j_aload_n (dk dt_X9_push 2 rfl) rfl ?_
  refine jz_getO (kz := 1) (dk dt_X9_push 3 rfl) fl_X9_11 rfl rfl rfl k_1 ?_
  obtain ⟨a_8, e_8, k_8, H⟩ := H
  refine jz_alen (t := 8) (dk dt_X9_push 4 rfl) e_8 k_8 (by decide) hw ?_
  refine jz_icmp_lt 13 (dk dt_X9_push 5 rfl) (by decide) (hw.1 _ _) (r32_len hw _) H (fun H => ?_) (fun H => ?_)
  · refine j_aload_n (dk dt_X9_push 7 rfl) rfl ?_
    refine jz_getO (kz := 1) (dk dt_X9_push 8 rfl) fl_X9_11 rfl rfl rfl k_1 ?_
    refine j_aload_n (dk dt_X9_push 9 rfl) rfl ?_
    refine jz_getI (kz := 10) (dk dt_X9_push 10 rfl) fl_X9_161 rfl rfl rfl k_1 ?_
    obtain ⟨p_21, q_21, H⟩ := H
    refine jz_aald (t := 8) (dk dt_X9_push 11 rfl) e_8 k_8 (by decide) (by decide) p_21 q_21 hw ?_
    refine j_astore_n (dk dt_X9_push 12 rfl) (by decide) ?_
    refine j_aload_n (dk dt_X9_push 13 rfl) rfl ?_
    refine j_dup (dk dt_X9_push 14 rfl) rfl ?_
    refine jz_getI (kz := 10) (dk dt_X9_push 15 rfl) fl_X9_161 rfl rfl rfl k_1 ?_
    refine j_iconst (v := Int32.ofInt 1) (dk dt_X9_push 16 rfl) (by decide) ?_
    refine jz_iadd (dk dt_X9_push 17 rfl) ?_
    refine jz_putI (kz := 10) (dk dt_X9_push 18 rfl) fl_X9_161 rfl rfl rfl rfl rfl k_1 hw (r32_w _) (fun w_30 => ?_)
    replace H := H _ rfl
    refine j_aload_n (dk dt_X9_push 19 rfl) rfl ?_
    obtain ⟨a_34, e_34, k_34, H⟩ := H
    refine jz_getI (kz := 0) (dk dt_X9_push 20 rfl) fl_X9_91 rfl rfl e_34 k_34 ?_
    refine j_bipush (v := Int32.ofInt 14) (dk dt_X9_push 21 rfl) (by decide) ?_
    refine jz_icmp_ne 60 (dk dt_X9_push 22 rfl) (by decide) (w_30.1 _ _) (by decide) H (fun H => ?_) (fun H => ?_)
    · refine j_aload_n (dk dt_X9_push 23 rfl) rfl ?_
      refine jz_getO (kz := 2) (dk dt_X9_push 24 rfl) fl_X9_198 rfl rfl e_34 k_34 ?_
      refine jz_ifnull 60 (dk dt_X9_push 25 rfl) (by decide) H (fun H => ?_) (fun H => ?_)
      · exact j_el (T_X9_push_60 r_x2 w_30   H) (And.intro rfl (And.intro rfl (And.intro rfl (And.intro rfl trivial))))
      · refine j_aload_n (dk dt_X9_push 26 rfl) rfl ?_
        refine j_aload_n (dk dt_X9_push 27 rfl) rfl ?_
        refine jz_getO (kz := 2) (dk dt_X9_push 28 rfl) fl_X9_198 rfl rfl e_34 k_34 ?_
        obtain ⟨a_54, e_54, k_54, H⟩ := H
        refine jz_callV1 (dk dt_X9_push 29 rfl) vl_X9_195 e_54 (T_X8_take w_30 H) k_54 rfl (by decide) (Nat.zero_le _) (Nat.zero_le _) (Nat.le_of_ble_eq_true rfl) (fun v_54 h_54 P_54 => ?_)
        obtain ⟨z_54, rfl, rfl, w_54, H⟩ := P_54
        dsimp only [rs]
        refine j_goto 144 (dk dt_X9_push 30 rfl) (by decide) ?_
        exact j_el (T_X9_push_144  w_54   H) trivial
    · exact j_el (T_X9_push_60 r_x2 w_30   H) (And.intro rfl (And.intro rfl (And.intro rfl (And.intro rfl trivial))))
  · exact j_return (dk dt_X9_push 6 rfl) rfl ⟨_, rfl, rfl, hw, H⟩
def F_X9_compare_43  (z : Z) (P : Z → Prop) : Prop :=
  P z
theorem T_X9_compare_43  {z : Z} {P : Z → Prop}  (hw : Wz z)   (H : F_X9_compare_43 z P) : J mX9_compare 3 0 0 (nx (QZV P)) 43 [none, none, none, none, none] [] (cz z) := by
  unfold F_X9_compare_43 at H
  exact j_return (dk dt_X9_compare 23 rfl) rfl ⟨_, rfl, rfl, hw, H⟩
def F_X9_compare_29  (s0 : Option Nat) (s1 : Int) (z : Z) (P : Z → Prop) : Prop :=
  (∃ a_29, s0 = some a_29 ∧ zK z a_29 = 9 ∧ F_X8_setTruth a_29 s1 z (fun z_29 => F_X9_compare_43 z_29 P))
theorem T_X9_compare_29  {s0 : Option Nat} {s1 : Int} {z : Z} {P : Z → Prop} (r_s1 : R32 s1) (hw : Wz z)   (H : F_X9_compare_29 s0 s1 z P) : J mX9_compare 3 0 0 (nx (QZV P)) 29 [none, none, none, none, none] [ii (s1), vr (s0)] (cz z) := by
  unfold F_X9_compare_29 at H
  obtain ⟨a_29, e_29, k_29, H⟩ := H
  refine jz_callV1 (dk dt_X9_compare 17 rfl) vl_X9_260 e_29 (T_X8_setTruth r_s1 hw H) k_29 rfl (by decide) (Nat.zero_le _) (Nat.zero_le _) (Nat.le_of_ble_eq_true rfl) (fun v_29 h_29 P_29 => ?_)
  obtain ⟨z_29, rfl, rfl, w_29, H⟩ := P_29
  dsimp only [rs]
  refine j_goto 43 (dk dt_X9_compare 18 rfl) (by decide) ?_
  exact j_el (T_X9_compare_43  w_29   H) trivial
def F_X9_compare_18  (x1 : Int) (x2 : Option Nat) (z : Z) (P : Z → Prop) : Prop :=
  (if x1 = 2 then F_X9_compare_29 x2 1 z P else F_X9_compare_29 x2 0 z P)
theorem T_X9_compare_18  {x1 : Int} {x2 : Option Nat} {z : Z} {P : Z → Prop} (r_x1 : R32 x1) (hw : Wz z)   (H : F_X9_compare_18 x1 x2 z P) : J mX9_compare 3 0 0 (nx (QZV P)) 18 [none, some (ii (x1)), some (vr (x2)), none, none] [] (cz z) := by
  unfold F_X9_compare_18 at H
  refine j_aload_n (dk dt_X9_compare 10 rfl) rfl ?_
  refine j_iload_n (dk dt_X9_compare 11 rfl) rfl ?_
  refine j_iconst (v := Int32.ofInt 2) (dk dt_X9_compare 12 rfl) (by decide) ?_
  refine jz_icmp_ne 28 (dk dt_X9_compare 13 rfl) (by decide) r_x1 (by decide) H (fun H => ?_) (fun H => ?_)
  · refine j_iconst (v := Int32.ofInt 1) (dk dt_X9_compare 14 rfl) (by decide) ?_
    refine j_goto 29 (dk dt_X9_compare 15 rfl) (by decide) ?_
    exact j_el (T_X9_compare_29 (by decide) hw   H) trivial
  · refine j_iconst (v := Int32.ofInt 0) (dk dt_X9_compare 16 rfl) (by decide) ?_
    exact j_el (T_X9_compare_29 (by decide) hw   H) trivial
def F_X9_compare_187  (z : Z) (P : Z → Prop) : Prop :=
  P z
theorem T_X9_compare_187  {z : Z} {P : Z → Prop}  (hw : Wz z)   (H : F_X9_compare_187 z P) : J mX9_compare 3 0 0 (nx (QZV P)) 187 [none, none, none, none, none] [] (cz z) := by
  unfold F_X9_compare_187 at H
  exact j_return (dk dt_X9_compare 77 rfl) rfl ⟨_, rfl, rfl, hw, H⟩
def F_X9_compare_99  (s0 : Option Nat) (s1 : Int) (z : Z) (P : Z → Prop) : Prop :=
  (∃ a_99, s0 = some a_99 ∧ zK z a_99 = 9 ∧ F_X8_setTruth a_99 s1 z (fun z_99 => F_X9_compare_187 z_99 P))
theorem T_X9_compare_99  {s0 : Option Nat} {s1 : Int} {z : Z} {P : Z → Prop} (r_s1 : R32 s1) (hw : Wz z)   (H : F_X9_compare_99 s0 s1 z P) : J mX9_compare 3 0 0 (nx (QZV P)) 99 [none, none, none, none, none] [ii (s1), vr (s0)] (cz z) := by
  unfold F_X9_compare_99 at H
  obtain ⟨a_99, e_99, k_99, H⟩ := H
  refine jz_callV1 (dk dt_X9_compare 36 rfl) vl_X9_260 e_99 (T_X8_setTruth r_s1 hw H) k_99 rfl (by decide) (Nat.zero_le _) (Nat.zero_le _) (Nat.le_of_ble_eq_true rfl) (fun v_99 h_99 P_99 => ?_)
  obtain ⟨z_99, rfl, rfl, w_99, H⟩ := P_99
  dsimp only [rs]
  refine j_goto 187 (dk dt_X9_compare 37 rfl) (by decide) ?_
  exact j_el (T_X9_compare_187  w_99   H) trivial
def F_X9_compare_116  (s0 : Option Nat) (s1 : Int) (z : Z) (P : Z → Prop) : Prop :=
  (∃ a_116, s0 = some a_116 ∧ zK z a_116 = 9 ∧ F_X8_setTruth a_116 s1 z (fun z_116 => F_X9_compare_187 z_116 P))
theorem T_X9_compare_116  {s0 : Option Nat} {s1 : Int} {z : Z} {P : Z → Prop} (r_s1 : R32 s1) (hw : Wz z)   (H : F_X9_compare_116 s0 s1 z P) : J mX9_compare 3 0 0 (nx (QZV P)) 116 [none, none, none, none, none] [ii (s1), vr (s0)] (cz z) := by
  unfold F_X9_compare_116 at H
  obtain ⟨a_116, e_116, k_116, H⟩ := H
  refine jz_callV1 (dk dt_X9_compare 44 rfl) vl_X9_260 e_116 (T_X8_setTruth r_s1 hw H) k_116 rfl (by decide) (Nat.zero_le _) (Nat.zero_le _) (Nat.le_of_ble_eq_true rfl) (fun v_116 h_116 P_116 => ?_)
  obtain ⟨z_116, rfl, rfl, w_116, H⟩ := P_116
  dsimp only [rs]
  refine j_goto 187 (dk dt_X9_compare 45 rfl) (by decide) ?_
  exact j_el (T_X9_compare_187  w_116   H) trivial
def F_X9_compare_133  (s0 : Option Nat) (s1 : Int) (z : Z) (P : Z → Prop) : Prop :=
  (∃ a_133, s0 = some a_133 ∧ zK z a_133 = 9 ∧ F_X8_setTruth a_133 s1 z (fun z_133 => F_X9_compare_187 z_133 P))
theorem T_X9_compare_133  {s0 : Option Nat} {s1 : Int} {z : Z} {P : Z → Prop} (r_s1 : R32 s1) (hw : Wz z)   (H : F_X9_compare_133 s0 s1 z P) : J mX9_compare 3 0 0 (nx (QZV P)) 133 [none, none, none, none, none] [ii (s1), vr (s0)] (cz z) := by
  unfold F_X9_compare_133 at H
  obtain ⟨a_133, e_133, k_133, H⟩ := H
  refine jz_callV1 (dk dt_X9_compare 52 rfl) vl_X9_260 e_133 (T_X8_setTruth r_s1 hw H) k_133 rfl (by decide) (Nat.zero_le _) (Nat.zero_le _) (Nat.le_of_ble_eq_true rfl) (fun v_133 h_133 P_133 => ?_)
  obtain ⟨z_133, rfl, rfl, w_133, H⟩ := P_133
  dsimp only [rs]
  refine j_goto 187 (dk dt_X9_compare 53 rfl) (by decide) ?_
  exact j_el (T_X9_compare_187  w_133   H) trivial
def F_X9_compare_150  (s0 : Option Nat) (s1 : Int) (z : Z) (P : Z → Prop) : Prop :=
  (∃ a_150, s0 = some a_150 ∧ zK z a_150 = 9 ∧ F_X8_setTruth a_150 s1 z (fun z_150 => F_X9_compare_187 z_150 P))
theorem T_X9_compare_150  {s0 : Option Nat} {s1 : Int} {z : Z} {P : Z → Prop} (r_s1 : R32 s1) (hw : Wz z)   (H : F_X9_compare_150 s0 s1 z P) : J mX9_compare 3 0 0 (nx (QZV P)) 150 [none, none, none, none, none] [ii (s1), vr (s0)] (cz z) := by
  unfold F_X9_compare_150 at H
  obtain ⟨a_150, e_150, k_150, H⟩ := H
  refine jz_callV1 (dk dt_X9_compare 60 rfl) vl_X9_260 e_150 (T_X8_setTruth r_s1 hw H) k_150 rfl (by decide) (Nat.zero_le _) (Nat.zero_le _) (Nat.le_of_ble_eq_true rfl) (fun v_150 h_150 P_150 => ?_)
  obtain ⟨z_150, rfl, rfl, w_150, H⟩ := P_150
  dsimp only [rs]
  refine j_goto 187 (dk dt_X9_compare 61 rfl) (by decide) ?_
  exact j_el (T_X9_compare_187  w_150   H) trivial
def F_X9_compare_167  (s0 : Option Nat) (s1 : Int) (z : Z) (P : Z → Prop) : Prop :=
  (∃ a_167, s0 = some a_167 ∧ zK z a_167 = 9 ∧ F_X8_setTruth a_167 s1 z (fun z_167 => F_X9_compare_187 z_167 P))
theorem T_X9_compare_167  {s0 : Option Nat} {s1 : Int} {z : Z} {P : Z → Prop} (r_s1 : R32 s1) (hw : Wz z)   (H : F_X9_compare_167 s0 s1 z P) : J mX9_compare 3 0 0 (nx (QZV P)) 167 [none, none, none, none, none] [ii (s1), vr (s0)] (cz z) := by
  unfold F_X9_compare_167 at H
  obtain ⟨a_167, e_167, k_167, H⟩ := H
  refine jz_callV1 (dk dt_X9_compare 68 rfl) vl_X9_260 e_167 (T_X8_setTruth r_s1 hw H) k_167 rfl (by decide) (Nat.zero_le _) (Nat.zero_le _) (Nat.le_of_ble_eq_true rfl) (fun v_167 h_167 P_167 => ?_)
  obtain ⟨z_167, rfl, rfl, w_167, H⟩ := P_167
  dsimp only [rs]
  refine j_goto 187 (dk dt_X9_compare 69 rfl) (by decide) ?_
  exact j_el (T_X9_compare_187  w_167   H) trivial
def F_X9_compare_184  (s0 : Option Nat) (s1 : Int) (z : Z) (P : Z → Prop) : Prop :=
  (∃ a_184, s0 = some a_184 ∧ zK z a_184 = 9 ∧ F_X8_setTruth a_184 s1 z (fun z_184 => F_X9_compare_187 z_184 P))
theorem T_X9_compare_184  {s0 : Option Nat} {s1 : Int} {z : Z} {P : Z → Prop} (r_s1 : R32 s1) (hw : Wz z)   (H : F_X9_compare_184 s0 s1 z P) : J mX9_compare 3 0 0 (nx (QZV P)) 184 [none, none, none, none, none] [ii (s1), vr (s0)] (cz z) := by
  unfold F_X9_compare_184 at H
  obtain ⟨a_184, e_184, k_184, H⟩ := H
  refine jz_callV1 (dk dt_X9_compare 76 rfl) vl_X9_260 e_184 (T_X8_setTruth r_s1 hw H) k_184 rfl (by decide) (Nat.zero_le _) (Nat.zero_le _) (Nat.le_of_ble_eq_true rfl) (fun v_184 h_184 P_184 => ?_)
  obtain ⟨z_184, rfl, rfl, w_184, H⟩ := P_184
  dsimp only [rs]
  exact j_el (T_X9_compare_187  w_184   H) trivial
def F_X9_compare  (t0 : Nat) (x1 : Int) (x2 : Option Nat) (x3 : Option Nat) (z : Z) (P : Z → Prop) : Prop :=
  (∃ a_2, x2 = some a_2 ∧ zK z a_2 = 9 ∧ F_X8_compares a_2 x3 z (fun x_2 => (if x_2 = 0 then (if x1 = 1 then F_X9_compare_18 x1 x2 z P else (if x1 = 2 then F_X9_compare_18 x1 x2 z P else F_X8_set a_2 4 3 z (fun z_40 => F_X9_compare_43 z_40 P))) else F_X8_compared a_2 x3 z (fun x_46 => (if x1 = 1 then (if x_46 = 0 then F_X9_compare_99 x2 1 z P else F_X9_compare_99 x2 0 z P) else (if x1 = 2 then (if x_46 = 0 then F_X9_compare_116 x2 0 z P else F_X9_compare_116 x2 1 z P) else (if x1 = 3 then (if 0 ≤ x_46 then F_X9_compare_133 x2 0 z P else F_X9_compare_133 x2 1 z P) else (if x1 = 4 then (if 0 < x_46 then F_X9_compare_150 x2 0 z P else F_X9_compare_150 x2 1 z P) else (if x1 = 5 then (if x_46 ≤ 0 then F_X9_compare_167 x2 0 z P else F_X9_compare_167 x2 1 z P) else (if x_46 < 0 then F_X9_compare_184 x2 0 z P else F_X9_compare_184 x2 1 z P))))))))))
theorem T_X9_compare  {t0 : Nat} {x1 : Int} {x2 : Option Nat} {x3 : Option Nat} {z : Z} {P : Z → Prop} (r_x1 : R32 x1) (hw : Wz z)  (H : F_X9_compare t0 x1 x2 x3 z P) : Con mX9_compare 3 0 0 [vr (some t0), ii (x1), vr (x2), vr (x3)] (cz z) (QZV P) := by
  refine con_of rfl (Nat.le_of_ble_eq_true rfl) (by decide) ?_
  show J mX9_compare 3 0 0 _ 0 [some (vr (some t0)), some (ii (x1)), some (vr (x2)), some (vr (x3)), none] [] (cz z)
  unfold F_X9_compare at H
  refine j_aload_n (dk dt_X9_compare 0 rfl) rfl ?_
  refine j_aload_n (dk dt_X9_compare 1 rfl) rfl ?_
  obtain ⟨a_2, e_2, k_2, H⟩ := H
  refine jz_callV1 (dk dt_X9_compare 2 rfl) vl_X9_256 e_2 (T_X8_compares hw H) k_2 rfl (by decide) (Nat.zero_le _) (Nat.zero_le _) (Nat.le_of_ble_eq_true rfl) (fun v_2 h_2 P_2 => ?_)
  obtain ⟨x_2, rfl, r_2, rfl, H⟩ := P_2
  dsimp only [rs]
  refine jz_if_ne 44 (dk dt_X9_compare 3 rfl) (by decide) r_2 H (fun H => ?_) (fun H => ?_)
  · refine j_iload_n (dk dt_X9_compare 4 rfl) rfl ?_
    refine j_iconst (v := Int32.ofInt 1) (dk dt_X9_compare 5 rfl) (by decide) ?_
    refine jz_icmp_eq 18 (dk dt_X9_compare 6 rfl) (by decide) r_x1 (by decide) H (fun H => ?_) (fun H => ?_)
    · exact j_el (T_X9_compare_18 r_x1 hw   H) (And.intro rfl (And.intro rfl trivial))
    · refine j_iload_n (dk dt_X9_compare 7 rfl) rfl ?_
      refine j_iconst (v := Int32.ofInt 2) (dk dt_X9_compare 8 rfl) (by decide) ?_
      refine jz_icmp_ne 35 (dk dt_X9_compare 9 rfl) (by decide) r_x1 (by decide) H (fun H => ?_) (fun H => ?_)
      · exact j_el (T_X9_compare_18 r_x1 hw   H) (And.intro rfl (And.intro rfl trivial))
      · refine j_aload_n (dk dt_X9_compare 19 rfl) rfl ?_
        refine j_iconst (v := Int32.ofInt 4) (dk dt_X9_compare 20 rfl) (by decide) ?_
        refine j_ldc2 (v := Int64.ofInt (3)) (dk dt_X9_compare 21 rfl) (by exact kl_X9_240) ?_
        refine jz_callV2 (dk dt_X9_compare 22 rfl) vl_X9_145 e_2 (T_X8_set (by decide) (by decide) hw H) k_2 rfl (by decide) (Nat.zero_le _) (Nat.zero_le _) (Nat.le_of_ble_eq_true rfl) (fun v_40 h_40 P_40 => ?_)
        obtain ⟨z_40, rfl, rfl, w_40, H⟩ := P_40
        dsimp only [rs]
        exact j_el (T_X9_compare_43  w_40   H) trivial
  · refine j_aload_n (dk dt_X9_compare 24 rfl) rfl ?_
    refine j_aload_n (dk dt_X9_compare 25 rfl) rfl ?_
    refine jz_callV1 (dk dt_X9_compare 26 rfl) vl_X9_264 e_2 (T_X8_compared hw H) k_2 rfl (by decide) (Nat.zero_le _) (Nat.zero_le _) (Nat.le_of_ble_eq_true rfl) (fun v_46 h_46 P_46 => ?_)
    obtain ⟨x_46, rfl, r_46, rfl, H⟩ := P_46
    dsimp only [rs]
    refine j_istore (dk dt_X9_compare 27 rfl) (by decide) ?_
    refine j_iload_n (dk dt_X9_compare 28 rfl) rfl ?_
    by_cases y_52_0 : x1 = 1
    · rw [if_pos y_52_0] at H
      refine jz_tabIn 1 88 (dk dt_X9_compare 29 rfl) r_x1 y_52_0 (by decide) (by decide) rfl (by decide) ?_
      refine j_aload_n (dk dt_X9_compare 30 rfl) rfl ?_
      refine j_iload (dk dt_X9_compare 31 rfl) rfl ?_
      refine jz_if_ne 98 (dk dt_X9_compare 32 rfl) (by decide) r_46 H (fun H => ?_) (fun H => ?_)
      · refine j_iconst (v := Int32.ofInt 1) (dk dt_X9_compare 33 rfl) (by decide) ?_
        refine j_goto 99 (dk dt_X9_compare 34 rfl) (by decide) ?_
        exact j_el (T_X9_compare_99 (by decide) hw   H) trivial
      · refine j_iconst (v := Int32.ofInt 0) (dk dt_X9_compare 35 rfl) (by decide) ?_
        exact j_el (T_X9_compare_99 (by decide) hw   H) trivial
    rw [if_neg y_52_0] at H
    by_cases y_52_1 : x1 = 2
    · rw [if_pos y_52_1] at H
      refine jz_tabIn 2 105 (dk dt_X9_compare 29 rfl) r_x1 y_52_1 (by decide) (by decide) rfl (by decide) ?_
      refine j_aload_n (dk dt_X9_compare 38 rfl) rfl ?_
      refine j_iload (dk dt_X9_compare 39 rfl) rfl ?_
      refine jz_if_eq 115 (dk dt_X9_compare 40 rfl) (by decide) r_46 H (fun H => ?_) (fun H => ?_)
      · refine j_iconst (v := Int32.ofInt 0) (dk dt_X9_compare 43 rfl) (by decide) ?_
        exact j_el (T_X9_compare_116 (by decide) hw   H) trivial
      · refine j_iconst (v := Int32.ofInt 1) (dk dt_X9_compare 41 rfl) (by decide) ?_
        refine j_goto 116 (dk dt_X9_compare 42 rfl) (by decide) ?_
        exact j_el (T_X9_compare_116 (by decide) hw   H) trivial
    rw [if_neg y_52_1] at H
    by_cases y_52_2 : x1 = 3
    · rw [if_pos y_52_2] at H
      refine jz_tabIn 3 122 (dk dt_X9_compare 29 rfl) r_x1 y_52_2 (by decide) (by decide) rfl (by decide) ?_
      refine j_aload_n (dk dt_X9_compare 46 rfl) rfl ?_
      refine j_iload (dk dt_X9_compare 47 rfl) rfl ?_
      refine jz_if_ge 132 (dk dt_X9_compare 48 rfl) (by decide) r_46 H (fun H => ?_) (fun H => ?_)
      · refine j_iconst (v := Int32.ofInt 0) (dk dt_X9_compare 51 rfl) (by decide) ?_
        exact j_el (T_X9_compare_133 (by decide) hw   H) trivial
      · refine j_iconst (v := Int32.ofInt 1) (dk dt_X9_compare 49 rfl) (by decide) ?_
        refine j_goto 133 (dk dt_X9_compare 50 rfl) (by decide) ?_
        exact j_el (T_X9_compare_133 (by decide) hw   H) trivial
    rw [if_neg y_52_2] at H
    by_cases y_52_3 : x1 = 4
    · rw [if_pos y_52_3] at H
      refine jz_tabIn 4 139 (dk dt_X9_compare 29 rfl) r_x1 y_52_3 (by decide) (by decide) rfl (by decide) ?_
      refine j_aload_n (dk dt_X9_compare 54 rfl) rfl ?_
      refine j_iload (dk dt_X9_compare 55 rfl) rfl ?_
      refine jz_if_gt 149 (dk dt_X9_compare 56 rfl) (by decide) r_46 H (fun H => ?_) (fun H => ?_)
      · refine j_iconst (v := Int32.ofInt 0) (dk dt_X9_compare 59 rfl) (by decide) ?_
        exact j_el (T_X9_compare_150 (by decide) hw   H) trivial
      · refine j_iconst (v := Int32.ofInt 1) (dk dt_X9_compare 57 rfl) (by decide) ?_
        refine j_goto 150 (dk dt_X9_compare 58 rfl) (by decide) ?_
        exact j_el (T_X9_compare_150 (by decide) hw   H) trivial
    rw [if_neg y_52_3] at H
    by_cases y_52_4 : x1 = 5
    · rw [if_pos y_52_4] at H
      refine jz_tabIn 5 156 (dk dt_X9_compare 29 rfl) r_x1 y_52_4 (by decide) (by decide) rfl (by decide) ?_
      refine j_aload_n (dk dt_X9_compare 62 rfl) rfl ?_
      refine j_iload (dk dt_X9_compare 63 rfl) rfl ?_
      refine jz_if_le 166 (dk dt_X9_compare 64 rfl) (by decide) r_46 H (fun H => ?_) (fun H => ?_)
      · refine j_iconst (v := Int32.ofInt 0) (dk dt_X9_compare 67 rfl) (by decide) ?_
        exact j_el (T_X9_compare_167 (by decide) hw   H) trivial
      · refine j_iconst (v := Int32.ofInt 1) (dk dt_X9_compare 65 rfl) (by decide) ?_
        refine j_goto 167 (dk dt_X9_compare 66 rfl) (by decide) ?_
        exact j_el (T_X9_compare_167 (by decide) hw   H) trivial
    rw [if_neg y_52_4] at H
    refine jz_tabOut 173 (dk dt_X9_compare 29 rfl) r_x1 (by omega) (by decide) ?_
    refine j_aload_n (dk dt_X9_compare 70 rfl) rfl ?_
    refine j_iload (dk dt_X9_compare 71 rfl) rfl ?_
    refine jz_if_lt 183 (dk dt_X9_compare 72 rfl) (by decide) r_46 H (fun H => ?_) (fun H => ?_)
    · refine j_iconst (v := Int32.ofInt 0) (dk dt_X9_compare 75 rfl) (by decide) ?_
      exact j_el (T_X9_compare_184 (by decide) hw   H) trivial
    · refine j_iconst (v := Int32.ofInt 1) (dk dt_X9_compare 73 rfl) (by decide) ?_
      refine j_goto 184 (dk dt_X9_compare 74 rfl) (by decide) ?_
      exact j_el (T_X9_compare_184 (by decide) hw   H) trivial
def L_X9_join_34  (x1 : Option Nat) (x2 : Option Nat) (x3 : Int) (x4 : Int) (x5 : Int) (z : Z) (P : (Int × Z) ⊕ ((Z)) → Prop) : Prop :=
  (if x4 ≤ x5 then P (.inr z) else (∃ a_42, x1 = some a_42 ∧ zK z a_42 = 9 ∧ (∃ a_50, x2 = some a_50 ∧ zK z a_50 = 9 ∧ (∃ a_55, zO z a_50 0 = some a_55 ∧ zK z a_55 = 14 ∧ (0 ≤ x5 ∧ x5 < zN z a_55 ∧ (∃ a_56, zO z a_42 0 = some a_56 ∧ zK z a_56 = 14 ∧ (0 ≤ w32 (x3 + x5) ∧ w32 (x3 + x5) < zN z a_56 ∧ (∀ z_56, z_56 = wI z a_56 (w32 (x3 + x5)) (zI z a_55 x5) → P (.inl (w32 (x5 + 1), z_56))))))))))
theorem U_X9_join_34  {x1 : Option Nat} {x2 : Option Nat} {x3 : Int} {x4 : Int} {x5 : Int} {z : Z} {P : (Int × Z) ⊕ ((Z)) → Prop} {post : Option Sv ⊕ String → Hp → Prop} (r_x3 : R32 x3) (r_x4 : R32 x4) (r_x5 : R32 x5) (hw : Wz z)  (hl : ∀ (x5 : Int) (z : Z), P (.inl (x5, z)) → Wz z → R32 x5 → J mX9_join 2 0 0 post 34 [none, some (vr (x1)), some (vr (x2)), some (ii (x3)), some (ii (x4)), some (ii (x5))] [] (cz z)) (he0 : ∀ (z : Z), P (.inr z) → Wz z → J mX9_join 2 0 0 post 63 [none, some (vr (x1)), none, some (ii (x3)), some (ii (x4)), none] [] (cz z)) (H : L_X9_join_34 x1 x2 x3 x4 x5 z P) : J mX9_join 2 0 0 post 34 [none, some (vr (x1)), some (vr (x2)), some (ii (x3)), some (ii (x4)), some (ii (x5))] [] (cz z) := by
  unfold L_X9_join_34 at H
  refine j_iload (dk dt_X9_join 20 rfl) rfl ?_
  refine j_iload (dk dt_X9_join 21 rfl) rfl ?_
  refine jz_icmp_ge 63 (dk dt_X9_join 22 rfl) (by decide) r_x5 r_x4 H (fun H => ?_) (fun H => ?_)
  · exact j_el (he0 _ H hw) (And.intro rfl (And.intro rfl (And.intro rfl trivial)))
  · refine j_aload_n (dk dt_X9_join 23 rfl) rfl ?_
    obtain ⟨a_42, e_42, k_42, H⟩ := H
    refine jz_getO (kz := 0) (dk dt_X9_join 24 rfl) fl_X9_270 rfl rfl e_42 k_42 ?_
    refine j_iload_n (dk dt_X9_join 25 rfl) rfl ?_
    refine j_iload (dk dt_X9_join 26 rfl) rfl ?_
    refine jz_iadd (dk dt_X9_join 27 rfl) ?_
    refine j_aload_n (dk dt_X9_join 28 rfl) rfl ?_
    obtain ⟨a_50, e_50, k_50, H⟩ := H
    refine jz_getO (kz := 0) (dk dt_X9_join 29 rfl) fl_X9_270 rfl rfl e_50 k_50 ?_
    refine j_iload (dk dt_X9_join 30 rfl) rfl ?_
    obtain ⟨a_55, e_55, k_55, H⟩ := H
    obtain ⟨p_55, q_55, H⟩ := H
    refine jz_bald (dk dt_X9_join 31 rfl) e_55 k_55 p_55 q_55 hw ?_
    obtain ⟨a_56, e_56, k_56, H⟩ := H
    obtain ⟨p_56, q_56, H⟩ := H
    refine jz_bast (dk dt_X9_join 32 rfl) e_56 k_56 p_56 q_56 hw (hw.2.2.1 _ _ k_55) (fun w_56 => ?_)
    replace H := H _ rfl
    refine jz_iinc (dk dt_X9_join 33 rfl) rfl ?_
    refine j_goto 34 (dk dt_X9_join 34 rfl) (by decide) ?_
    exact j_el (hl _ _ H w_56 (r32_w _)) (And.intro rfl (And.intro rfl (And.intro rfl (And.intro rfl (And.intro rfl trivial)))))
def F_X9_join_34  (x1 : Option Nat) (x2 : Option Nat) (x3 : Int) (x4 : Int) (x5 : Int) (z : Z) (P : Z → Prop) : Prop :=
  lp (S := Int × Z) (E := (Z)) (fun q P_ => L_X9_join_34 x1 x2 x3 x4 q.1 q.2 P_) (x5, z) (fun (z : Z) => (∃ a_70, x1 = some a_70 ∧ zK z a_70 = 9 ∧ F_X8_set a_70 2 (w32 (x3 + x4)) z (fun z_70 => P z_70)))
theorem T_X9_join_34  {x1 : Option Nat} {x2 : Option Nat} {x3 : Int} {x4 : Int} {x5 : Int} {z : Z} {P : Z → Prop} (r_x3 : R32 x3) (r_x4 : R32 x4) (r_x5 : R32 x5) (hw : Wz z)   (H : F_X9_join_34 x1 x2 x3 x4 x5 z P) : J mX9_join 2 0 0 (nx (QZV P)) 34 [none, some (vr (x1)), some (vr (x2)), some (ii (x3)), some (ii (x4)), some (ii (x5))] [] (cz z) := by
  unfold F_X9_join_34 at H
  refine lp_J (G := fun q => Wz (q.2) → R32 (q.1) → J mX9_join 2 0 0 (nx (QZV P)) 34 [none, some (vr (x1)), some (vr (x2)), some (ii (x3)), some (ii (x4)), some (ii ((q.1)))] [] (cz (q.2))) (fun q P_ hl_ he_ Hb => ?_) (x5, z) H hw r_x5
  obtain ⟨x5, z⟩ := q
  intro hw r_x5
  refine U_X9_join_34 (P := P_) r_x3 r_x4 r_x5 hw  (fun x5 z Hp hw r_x5 => hl_ (x5, z) Hp hw r_x5) ?_ Hb
  · intro z Hp hw
    have H := he_ _ Hp
    refine j_aload_n (dk dt_X9_join 35 rfl) rfl ?_
    refine j_iconst (v := Int32.ofInt 2) (dk dt_X9_join 36 rfl) (by decide) ?_
    refine j_iload_n (dk dt_X9_join 37 rfl) rfl ?_
    refine j_iload (dk dt_X9_join 38 rfl) rfl ?_
    refine jz_iadd (dk dt_X9_join 39 rfl) ?_
    refine jz_i2l (dk dt_X9_join 40 rfl) (r32_w _) ?_
    obtain ⟨a_70, e_70, k_70, H⟩ := H
    refine jz_callV2 (dk dt_X9_join 41 rfl) vl_X9_145 e_70 (T_X8_set (by decide) (r64_3 (r32_w _)) hw H) k_70 rfl (by decide) (Nat.zero_le _) (Nat.zero_le _) (Nat.le_of_ble_eq_true rfl) (fun v_70 h_70 P_70 => ?_)
    obtain ⟨z_70, rfl, rfl, w_70, H⟩ := P_70
    dsimp only [rs]
    exact j_return (dk dt_X9_join 42 rfl) rfl ⟨_, rfl, rfl, w_70, H⟩
def F_X9_join  (t0 : Nat) (x1 : Option Nat) (x2 : Option Nat) (z : Z) (P : Z → Prop) : Prop :=
  (∃ a_1, x1 = some a_1 ∧ zK z a_1 = 9 ∧ (∃ a_7, x2 = some a_7 ∧ zK z a_7 = 9 ∧ (if w32 (w32 (zG z a_1 2) + (w32 (zG z a_7 2))) ≤ 24 then F_X9_join_34 x1 x2 (w32 (zG z a_1 2)) (w32 (zG z a_7 2)) 0 z P else F_X8_set a_1 4 5 z (fun z_27 => P z_27))))
theorem T_X9_join  {t0 : Nat} {x1 : Option Nat} {x2 : Option Nat} {z : Z} {P : Z → Prop}  (hw : Wz z)  (H : F_X9_join t0 x1 x2 z P) : Con mX9_join 2 0 0 [vr (some t0), vr (x1), vr (x2)] (cz z) (QZV P) := by
  refine con_of rfl (Nat.le_of_ble_eq_true rfl) (by decide) ?_
  show J mX9_join 2 0 0 _ 0 [some (vr (some t0)), some (vr (x1)), some (vr (x2)), none, none, none] [] (cz z)
  unfold F_X9_join at H
  refine j_aload_n (dk dt_X9_join 0 rfl) rfl ?_
  obtain ⟨a_1, e_1, k_1, H⟩ := H
  refine jz_getG (kz := 2) (dk dt_X9_join 1 rfl) fl_X9_230 rfl rfl e_1 k_1 ?_
  refine jz_l2i (dk dt_X9_join 2 rfl) ?_
  refine j_istore_n (dk dt_X9_join 3 rfl) (by decide) ?_
  refine j_aload_n (dk dt_X9_join 4 rfl) rfl ?_
  obtain ⟨a_7, e_7, k_7, H⟩ := H
  refine jz_getG (kz := 2) (dk dt_X9_join 5 rfl) fl_X9_230 rfl rfl e_7 k_7 ?_
  refine jz_l2i (dk dt_X9_join 6 rfl) ?_
  refine j_istore (dk dt_X9_join 7 rfl) (by decide) ?_
  refine j_iload_n (dk dt_X9_join 8 rfl) rfl ?_
  refine j_iload (dk dt_X9_join 9 rfl) rfl ?_
  refine jz_iadd (dk dt_X9_join 10 rfl) ?_
  refine j_bipush (v := Int32.ofInt 24) (dk dt_X9_join 11 rfl) (by decide) ?_
  refine jz_icmp_le 31 (dk dt_X9_join 12 rfl) (by decide) (r32_w _) (by decide) H (fun H => ?_) (fun H => ?_)
  · refine j_iconst (v := Int32.ofInt 0) (dk dt_X9_join 18 rfl) (by decide) ?_
    refine j_istore (dk dt_X9_join 19 rfl) (by decide) ?_
    exact j_el (T_X9_join_34 (r32_w _) (r32_w _) (by decide) hw   H) (And.intro rfl (And.intro rfl (And.intro rfl (And.intro rfl (And.intro rfl trivial)))))
  · refine j_aload_n (dk dt_X9_join 13 rfl) rfl ?_
    refine j_iconst (v := Int32.ofInt 4) (dk dt_X9_join 14 rfl) (by decide) ?_
    refine j_ldc2 (v := Int64.ofInt (5)) (dk dt_X9_join 15 rfl) (by exact kl_X9_268) ?_
    refine jz_callV2 (dk dt_X9_join 16 rfl) vl_X9_145 e_1 (T_X8_set (by decide) (by decide) hw H) k_1 rfl (by decide) (Nat.zero_le _) (Nat.zero_le _) (Nat.le_of_ble_eq_true rfl) (fun v_27 h_27 P_27 => ?_)
    obtain ⟨z_27, rfl, rfl, w_27, H⟩ := P_27
    dsimp only [rs]
    exact j_return (dk dt_X9_join 17 rfl) rfl ⟨_, rfl, rfl, w_27, H⟩
def F_X9_reckon_140  (z : Z) (P : Z → Prop) : Prop :=
  P z
theorem T_X9_reckon_140  {z : Z} {P : Z → Prop}  (hw : Wz z)   (H : F_X9_reckon_140 z P) : J mX9_reckon 4 0 0 (nx (QZV P)) 140 [none, none, none, none, none, none, none] [] (cz z) := by
  unfold F_X9_reckon_140 at H
  exact j_return (dk dt_X9_reckon 63 rfl) rfl ⟨_, rfl, rfl, hw, H⟩
def F_X9_reckon_89  (x2 : Option Nat) (x3 : Int) (x5 : Int) (z : Z) (P : Z → Prop) : Prop :=
  (∃ a_95, x2 = some a_95 ∧ zK z a_95 = 9 ∧ F_X8_set a_95 1 (w64 (x5 * x3)) z (fun z_95 => F_X9_reckon_140 z_95 P))
theorem T_X9_reckon_89  {x2 : Option Nat} {x3 : Int} {x5 : Int} {z : Z} {P : Z → Prop} (r_x3 : R64 x3) (r_x5 : R64 x5) (hw : Wz z)   (H : F_X9_reckon_89 x2 x3 x5 z P) : J mX9_reckon 4 0 0 (nx (QZV P)) 89 [none, none, some (vr (x2)), some (ll (x3)), none, some (ll (x5)), none] [] (cz z) := by
  unfold F_X9_reckon_89 at H
  refine j_aload_n (dk dt_X9_reckon 34 rfl) rfl ?_
  refine j_iconst (v := Int32.ofInt 1) (dk dt_X9_reckon 35 rfl) (by decide) ?_
  refine j_lload (dk dt_X9_reckon 36 rfl) rfl ?_
  refine j_lload_n (dk dt_X9_reckon 37 rfl) rfl ?_
  refine jz_lmul (dk dt_X9_reckon 38 rfl) ?_
  obtain ⟨a_95, e_95, k_95, H⟩ := H
  refine jz_callV2 (dk dt_X9_reckon 39 rfl) vl_X9_145 e_95 (T_X8_set (by decide) (r64_w _) hw H) k_95 rfl (by decide) (Nat.zero_le _) (Nat.zero_le _) (Nat.le_of_ble_eq_true rfl) (fun v_95 h_95 P_95 => ?_)
  obtain ⟨z_95, rfl, rfl, w_95, H⟩ := P_95
  dsimp only [rs]
  refine j_goto 140 (dk dt_X9_reckon 40 rfl) (by decide) ?_
  exact j_el (T_X9_reckon_140  w_95   H) trivial
def F_X9_reckon_137  (s0 : Option Nat) (s1 : Int) (s2 : Int) (z : Z) (P : Z → Prop) : Prop :=
  (∃ a_137, s0 = some a_137 ∧ zK z a_137 = 9 ∧ F_X8_set a_137 s1 s2 z (fun z_137 => F_X9_reckon_140 z_137 P))
theorem T_X9_reckon_137  {s0 : Option Nat} {s1 : Int} {s2 : Int} {z : Z} {P : Z → Prop} (r_s1 : R32 s1) (r_s2 : R64 s2) (hw : Wz z)   (H : F_X9_reckon_137 s0 s1 s2 z P) : J mX9_reckon 4 0 0 (nx (QZV P)) 137 [none, none, none, none, none, none, none] [ll (s2), ii (s1), vr (s0)] (cz z) := by
  unfold F_X9_reckon_137 at H
  obtain ⟨a_137, e_137, k_137, H⟩ := H
  refine jz_callV2 (dk dt_X9_reckon 62 rfl) vl_X9_145 e_137 (T_X8_set r_s1 r_s2 hw H) k_137 rfl (by decide) (Nat.zero_le _) (Nat.zero_le _) (Nat.le_of_ble_eq_true rfl) (fun v_137 h_137 P_137 => ?_)
  obtain ⟨z_137, rfl, rfl, w_137, H⟩ := P_137
  dsimp only [rs]
  exact j_el (T_X9_reckon_140  w_137   H) trivial
def F_X9_reckon  (t0 : Nat) (x1 : Int) (x2 : Option Nat) (x3 : Int) (z : Z) (P : Z → Prop) : Prop :=
  (∃ a_1, x2 = some a_1 ∧ zK z a_1 = 9 ∧ (if x1 = 8 then F_X8_setBounded a_1 (w64 ((zG z a_1 2) + x3)) z (fun z_37 => F_X9_reckon_140 z_37 P) else (if x1 = 9 then F_X8_setBounded a_1 (w64 ((zG z a_1 2) - x3)) z (fun z_48 => F_X9_reckon_140 z_48 P) else (if x1 = 10 then (if zG z a_1 2 = 0 then F_X9_reckon_89 x2 x3 (zG z a_1 2) z P else (¬ (if 0 ≤ zG z a_1 2 then zG z a_1 2 else w64 (0 - (zG z a_1 2))) = 0 ∧ (if (if 0 ≤ x3 then x3 else w64 (0 - x3)) ≤ w64 (Int.tdiv 1000000000000000 (if 0 ≤ zG z a_1 2 then zG z a_1 2 else w64 (0 - (zG z a_1 2)))) then F_X9_reckon_89 x2 x3 (zG z a_1 2) z P else F_X8_set a_1 4 4 z (fun z_83 => F_X9_reckon_140 z_83 P)))) else (if x3 = 0 then F_X8_set a_1 4 2 z (fun z_112 => F_X9_reckon_140 z_112 P) else (if x1 = 11 then (¬ x3 = 0 ∧ F_X9_reckon_137 x2 1 (w64 (Int.tdiv (zG z a_1 2) x3)) z P) else (¬ x3 = 0 ∧ F_X9_reckon_137 x2 1 (w64 (Int.tmod (zG z a_1 2) x3)) z P)))))))
theorem T_X9_reckon  {t0 : Nat} {x1 : Int} {x2 : Option Nat} {x3 : Int} {z : Z} {P : Z → Prop} (r_x1 : R32 x1) (r_x3 : R64 x3) (hw : Wz z)  (H : F_X9_reckon t0 x1 x2 x3 z P) : Con mX9_reckon 4 0 0 [vr (some t0), ii (x1), vr (x2), ll (x3)] (cz z) (QZV P) := by
  refine con_of rfl (Nat.le_of_ble_eq_true rfl) (by decide) ?_
  show J mX9_reckon 4 0 0 _ 0 [some (vr (some t0)), some (ii (x1)), some (vr (x2)), some (ll (x3)), none, none, none] [] (cz z)
  unfold F_X9_reckon at H
  refine j_aload_n (dk dt_X9_reckon 0 rfl) rfl ?_
  obtain ⟨a_1, e_1, k_1, H⟩ := H
  refine jz_getG (kz := 2) (dk dt_X9_reckon 1 rfl) fl_X9_230 rfl rfl e_1 k_1 ?_
  refine j_lstore (dk dt_X9_reckon 2 rfl) (by decide) ?_
  refine j_iload_n (dk dt_X9_reckon 3 rfl) rfl ?_
  by_cases y_7_0 : x1 = 8
  · rw [if_pos y_7_0] at H
    refine jz_tabIn 8 32 (dk dt_X9_reckon 4 rfl) r_x1 y_7_0 (by decide) (by decide) rfl (by decide) ?_
    refine j_aload_n (dk dt_X9_reckon 5 rfl) rfl ?_
    refine j_lload (dk dt_X9_reckon 6 rfl) rfl ?_
    refine j_lload_n (dk dt_X9_reckon 7 rfl) rfl ?_
    refine jz_ladd (dk dt_X9_reckon 8 rfl) ?_
    refine jz_callV1 (dk dt_X9_reckon 9 rfl) vl_X9_274 e_1 (T_X8_setBounded (r64_w _) hw H) k_1 rfl (by decide) (Nat.zero_le _) (Nat.zero_le _) (Nat.le_of_ble_eq_true rfl) (fun v_37 h_37 P_37 => ?_)
    obtain ⟨z_37, rfl, rfl, w_37, H⟩ := P_37
    dsimp only [rs]
    refine j_goto 140 (dk dt_X9_reckon 10 rfl) (by decide) ?_
    exact j_el (T_X9_reckon_140  w_37   H) trivial
  rw [if_neg y_7_0] at H
  by_cases y_7_1 : x1 = 9
  · rw [if_pos y_7_1] at H
    refine jz_tabIn 9 43 (dk dt_X9_reckon 4 rfl) r_x1 y_7_1 (by decide) (by decide) rfl (by decide) ?_
    refine j_aload_n (dk dt_X9_reckon 11 rfl) rfl ?_
    refine j_lload (dk dt_X9_reckon 12 rfl) rfl ?_
    refine j_lload_n (dk dt_X9_reckon 13 rfl) rfl ?_
    refine jz_lsub (dk dt_X9_reckon 14 rfl) ?_
    refine jz_callV1 (dk dt_X9_reckon 15 rfl) vl_X9_274 e_1 (T_X8_setBounded (r64_w _) hw H) k_1 rfl (by decide) (Nat.zero_le _) (Nat.zero_le _) (Nat.le_of_ble_eq_true rfl) (fun v_48 h_48 P_48 => ?_)
    obtain ⟨z_48, rfl, rfl, w_48, H⟩ := P_48
    dsimp only [rs]
    refine j_goto 140 (dk dt_X9_reckon 16 rfl) (by decide) ?_
    exact j_el (T_X9_reckon_140  w_48   H) trivial
  rw [if_neg y_7_1] at H
  by_cases y_7_2 : x1 = 10
  · rw [if_pos y_7_2] at H
    refine jz_tabIn 10 54 (dk dt_X9_reckon 4 rfl) r_x1 y_7_2 (by decide) (by decide) rfl (by decide) ?_
    refine j_lload (dk dt_X9_reckon 17 rfl) rfl ?_
    refine j_lconst (v := Int64.ofInt 0) (dk dt_X9_reckon 18 rfl) (by decide) ?_
    refine jz_lcmp (dk dt_X9_reckon 19 rfl) (hw.2.1 _ _) (by decide) ?_
    refine jz_lif_eq 89 (dk dt_X9_reckon 20 rfl) (by decide) H (fun H => ?_) (fun H => ?_)
    · exact j_el (T_X9_reckon_89 r_x3 (hw.2.1 _ _) hw   H) (And.intro rfl (And.intro rfl (And.intro rfl trivial)))
    · refine j_lload_n (dk dt_X9_reckon 21 rfl) rfl ?_
      refine jz_lmabs (dk dt_X9_reckon 22 rfl) sl_X9_278 (by decide) (Nat.le_of_ble_eq_true rfl) r_x3 ?_
      refine j_ldc2 (v := Int64.ofInt (1000000000000000)) (dk dt_X9_reckon 23 rfl) (by exact kl_X9_282) ?_
      refine j_lload (dk dt_X9_reckon 24 rfl) rfl ?_
      refine jz_lmabs (dk dt_X9_reckon 25 rfl) sl_X9_278 (by decide) (Nat.le_of_ble_eq_true rfl) (hw.2.1 _ _) ?_
      obtain ⟨n_73, H⟩ := H
      refine jz_ldiv (dk dt_X9_reckon 26 rfl) (by decide) (r64_if (hw.2.1 _ _) (r64_w _)) n_73 ?_
      refine jz_lcmp (dk dt_X9_reckon 27 rfl) (r64_if r_x3 (r64_w _)) (r64_w _) ?_
      refine jz_lif_le 89 (dk dt_X9_reckon 28 rfl) (by decide) H (fun H => ?_) (fun H => ?_)
      · exact j_el (T_X9_reckon_89 r_x3 (hw.2.1 _ _) hw   H) (And.intro rfl (And.intro rfl (And.intro rfl trivial)))
      · refine j_aload_n (dk dt_X9_reckon 29 rfl) rfl ?_
        refine j_iconst (v := Int32.ofInt 4) (dk dt_X9_reckon 30 rfl) (by decide) ?_
        refine j_ldc2 (v := Int64.ofInt (4)) (dk dt_X9_reckon 31 rfl) (by exact kl_X9_284) ?_
        refine jz_callV2 (dk dt_X9_reckon 32 rfl) vl_X9_145 e_1 (T_X8_set (by decide) (by decide) hw H) k_1 rfl (by decide) (Nat.zero_le _) (Nat.zero_le _) (Nat.le_of_ble_eq_true rfl) (fun v_83 h_83 P_83 => ?_)
        obtain ⟨z_83, rfl, rfl, w_83, H⟩ := P_83
        dsimp only [rs]
        refine j_goto 140 (dk dt_X9_reckon 33 rfl) (by decide) ?_
        exact j_el (T_X9_reckon_140  w_83   H) trivial
  rw [if_neg y_7_2] at H
  refine jz_tabOut 101 (dk dt_X9_reckon 4 rfl) r_x1 (by omega) (by decide) ?_
  refine j_lload_n (dk dt_X9_reckon 41 rfl) rfl ?_
  refine j_lconst (v := Int64.ofInt 0) (dk dt_X9_reckon 42 rfl) (by decide) ?_
  refine jz_lcmp (dk dt_X9_reckon 43 rfl) r_x3 (by decide) ?_
  refine jz_lif_ne 118 (dk dt_X9_reckon 44 rfl) (by decide) H (fun H => ?_) (fun H => ?_)
  · refine j_aload_n (dk dt_X9_reckon 45 rfl) rfl ?_
    refine j_iconst (v := Int32.ofInt 4) (dk dt_X9_reckon 46 rfl) (by decide) ?_
    refine j_ldc2 (v := Int64.ofInt (2)) (dk dt_X9_reckon 47 rfl) (by exact kl_X9_286) ?_
    refine jz_callV2 (dk dt_X9_reckon 48 rfl) vl_X9_145 e_1 (T_X8_set (by decide) (by decide) hw H) k_1 rfl (by decide) (Nat.zero_le _) (Nat.zero_le _) (Nat.le_of_ble_eq_true rfl) (fun v_112 h_112 P_112 => ?_)
    obtain ⟨z_112, rfl, rfl, w_112, H⟩ := P_112
    dsimp only [rs]
    refine j_goto 140 (dk dt_X9_reckon 49 rfl) (by decide) ?_
    exact j_el (T_X9_reckon_140  w_112   H) trivial
  · refine j_aload_n (dk dt_X9_reckon 50 rfl) rfl ?_
    refine j_iconst (v := Int32.ofInt 1) (dk dt_X9_reckon 51 rfl) (by decide) ?_
    refine j_iload_n (dk dt_X9_reckon 52 rfl) rfl ?_
    refine j_bipush (v := Int32.ofInt 11) (dk dt_X9_reckon 53 rfl) (by decide) ?_
    refine jz_icmp_ne 133 (dk dt_X9_reckon 54 rfl) (by decide) r_x1 (by decide) H (fun H => ?_) (fun H => ?_)
    · refine j_lload (dk dt_X9_reckon 55 rfl) rfl ?_
      refine j_lload_n (dk dt_X9_reckon 56 rfl) rfl ?_
      obtain ⟨n_129, H⟩ := H
      refine jz_ldiv (dk dt_X9_reckon 57 rfl) (hw.2.1 _ _) r_x3 n_129 ?_
      refine j_goto 137 (dk dt_X9_reckon 58 rfl) (by decide) ?_
      exact j_el (T_X9_reckon_137 (by decide) (r64_w _) hw   H) trivial
    · refine j_lload (dk dt_X9_reckon 59 rfl) rfl ?_
      refine j_lload_n (dk dt_X9_reckon 60 rfl) rfl ?_
      obtain ⟨n_136, H⟩ := H
      refine jz_lrem (dk dt_X9_reckon 61 rfl) (hw.2.1 _ _) r_x3 n_136 ?_
      exact j_el (T_X9_reckon_137 (by decide) (r64_w _) hw   H) trivial
def F_X9_sign_116  (z : Z) (P : Z → Prop) : Prop :=
  P z
theorem T_X9_sign_116  {z : Z} {P : Z → Prop}  (hw : Wz z)   (H : F_X9_sign_116 z P) : J mX9_sign 9 0 0 (nx (QZV P)) 116 [none, none, none, none] [] (cz z) := by
  unfold F_X9_sign_116 at H
  exact j_return (dk dt_X9_sign 60 rfl) rfl ⟨_, rfl, rfl, hw, H⟩
def F_X9_sign_95  (x2 : Option Nat) (z : Z) (P : Z → Prop) : Prop :=
  (∃ a_100, x2 = some a_100 ∧ zK z a_100 = 9 ∧ F_X8_set a_100 4 3 z (fun z_100 => F_X9_sign_116 z_100 P))
theorem T_X9_sign_95  {x2 : Option Nat} {z : Z} {P : Z → Prop}  (hw : Wz z)   (H : F_X9_sign_95 x2 z P) : J mX9_sign 9 0 0 (nx (QZV P)) 95 [none, none, some (vr (x2)), none] [] (cz z) := by
  unfold F_X9_sign_95 at H
  refine j_aload_n (dk dt_X9_sign 49 rfl) rfl ?_
  refine j_iconst (v := Int32.ofInt 4) (dk dt_X9_sign 50 rfl) (by decide) ?_
  refine j_ldc2 (v := Int64.ofInt (3)) (dk dt_X9_sign 51 rfl) (by exact kl_X9_240) ?_
  obtain ⟨a_100, e_100, k_100, H⟩ := H
  refine jz_callV2 (dk dt_X9_sign 52 rfl) vl_X9_145 e_100 (T_X8_set (by decide) (by decide) hw H) k_100 rfl (by decide) (Nat.zero_le _) (Nat.zero_le _) (Nat.le_of_ble_eq_true rfl) (fun v_100 h_100 P_100 => ?_)
  obtain ⟨z_100, rfl, rfl, w_100, H⟩ := P_100
  dsimp only [rs]
  refine j_goto 116 (dk dt_X9_sign 53 rfl) (by decide) ?_
  exact j_el (T_X9_sign_116  w_100   H) trivial
def F_X9_sign  (t0 : Nat) (x1 : Int) (x2 : Option Nat) (x3 : Option Nat) (z : Z) (P : Z → Prop) : Prop :=
  (∃ a_1, x2 = some a_1 ∧ zK z a_1 = 9 ∧ (if zI z a_1 1 = 4 then F_X8_set a_1 4 (zG z a_1 2) z (fun z_14 => F_X9_sign_116 z_14 P) else (∃ a_21, x3 = some a_21 ∧ zK z a_21 = 9 ∧ (if zI z a_21 1 = 4 then F_X8_set a_1 4 (zG z a_21 2) z (fun z_34 => F_X9_sign_116 z_34 P) else (if 6 < x1 then (if x1 = 7 then F_X8_becomeText a_1 z (fun z_63 => (∃ a_67, x3 = some a_67 ∧ zK z_63 a_67 = 9 ∧ F_X8_becomeText a_67 z_63 (fun z_67 => (zK z_67 t0 = 10 ∧ F_X9_join t0 x2 x3 z_67 (fun z_73 => F_X9_sign_116 z_73 P))))) else F_X8_servesAs a_1 1 z (fun x_81 => (if x_81 = 0 then F_X9_sign_95 x2 z P else F_X8_servesAs a_21 1 z (fun x_89 => (if x_89 = 0 then F_X9_sign_95 x2 z P else (zK z t0 = 10 ∧ F_X9_reckon t0 x1 x2 (zG z a_21 2) z (fun z_113 => F_X9_sign_116 z_113 P))))))) else (zK z t0 = 10 ∧ F_X9_compare t0 x1 x2 x3 z (fun z_50 => F_X9_sign_116 z_50 P)))))))
theorem T_X9_sign  {t0 : Nat} {x1 : Int} {x2 : Option Nat} {x3 : Option Nat} {z : Z} {P : Z → Prop} (r_x1 : R32 x1) (hw : Wz z)  (H : F_X9_sign t0 x1 x2 x3 z P) : Con mX9_sign 9 0 0 [vr (some t0), ii (x1), vr (x2), vr (x3)] (cz z) (QZV P) := by
  refine con_of rfl (Nat.le_of_ble_eq_true rfl) (by decide) ?_
  show J mX9_sign 9 0 0 _ 0 [some (vr (some t0)), some (ii (x1)), some (vr (x2)), some (vr (x3))] [] (cz z)
  unfold F_X9_sign at H
  refine j_aload_n (dk dt_X9_sign 0 rfl) rfl ?_
  obtain ⟨a_1, e_1, k_1, H⟩ := H
  refine jz_getI (kz := 1) (dk dt_X9_sign 1 rfl) fl_X9_192 rfl rfl e_1 k_1 ?_
  refine j_iconst (v := Int32.ofInt 4) (dk dt_X9_sign 2 rfl) (by decide) ?_
  refine jz_icmp_ne 20 (dk dt_X9_sign 3 rfl) (by decide) (hw.1 _ _) (by decide) H (fun H => ?_) (fun H => ?_)
  · refine j_aload_n (dk dt_X9_sign 4 rfl) rfl ?_
    refine j_iconst (v := Int32.ofInt 4) (dk dt_X9_sign 5 rfl) (by decide) ?_
    refine j_aload_n (dk dt_X9_sign 6 rfl) rfl ?_
    refine jz_getG (kz := 2) (dk dt_X9_sign 7 rfl) fl_X9_230 rfl rfl e_1 k_1 ?_
    refine jz_callV2 (dk dt_X9_sign 8 rfl) vl_X9_145 e_1 (T_X8_set (by decide) (hw.2.1 _ _) hw H) k_1 rfl (by decide) (Nat.zero_le _) (Nat.zero_le _) (Nat.le_of_ble_eq_true rfl) (fun v_14 h_14 P_14 => ?_)
    obtain ⟨z_14, rfl, rfl, w_14, H⟩ := P_14
    dsimp only [rs]
    refine j_goto 116 (dk dt_X9_sign 9 rfl) (by decide) ?_
    exact j_el (T_X9_sign_116  w_14   H) trivial
  · refine j_aload_n (dk dt_X9_sign 10 rfl) rfl ?_
    obtain ⟨a_21, e_21, k_21, H⟩ := H
    refine jz_getI (kz := 1) (dk dt_X9_sign 11 rfl) fl_X9_192 rfl rfl e_21 k_21 ?_
    refine j_iconst (v := Int32.ofInt 4) (dk dt_X9_sign 12 rfl) (by decide) ?_
    refine jz_icmp_ne 40 (dk dt_X9_sign 13 rfl) (by decide) (hw.1 _ _) (by decide) H (fun H => ?_) (fun H => ?_)
    · refine j_aload_n (dk dt_X9_sign 14 rfl) rfl ?_
      refine j_iconst (v := Int32.ofInt 4) (dk dt_X9_sign 15 rfl) (by decide) ?_
      refine j_aload_n (dk dt_X9_sign 16 rfl) rfl ?_
      refine jz_getG (kz := 2) (dk dt_X9_sign 17 rfl) fl_X9_230 rfl rfl e_21 k_21 ?_
      refine jz_callV2 (dk dt_X9_sign 18 rfl) vl_X9_145 e_1 (T_X8_set (by decide) (hw.2.1 _ _) hw H) k_1 rfl (by decide) (Nat.zero_le _) (Nat.zero_le _) (Nat.le_of_ble_eq_true rfl) (fun v_34 h_34 P_34 => ?_)
      obtain ⟨z_34, rfl, rfl, w_34, H⟩ := P_34
      dsimp only [rs]
      refine j_goto 116 (dk dt_X9_sign 19 rfl) (by decide) ?_
      exact j_el (T_X9_sign_116  w_34   H) trivial
    · refine j_iload_n (dk dt_X9_sign 20 rfl) rfl ?_
      refine j_bipush (v := Int32.ofInt 6) (dk dt_X9_sign 21 rfl) (by decide) ?_
      refine jz_icmp_gt 56 (dk dt_X9_sign 22 rfl) (by decide) r_x1 (by decide) H (fun H => ?_) (fun H => ?_)
      · refine j_iload_n (dk dt_X9_sign 29 rfl) rfl ?_
        refine j_bipush (v := Int32.ofInt 7) (dk dt_X9_sign 30 rfl) (by decide) ?_
        refine jz_icmp_ne 79 (dk dt_X9_sign 31 rfl) (by decide) r_x1 (by decide) H (fun H => ?_) (fun H => ?_)
        · refine j_aload_n (dk dt_X9_sign 32 rfl) rfl ?_
          refine jz_callV0 (dk dt_X9_sign 33 rfl) vl_X9_245 e_1 (T_X8_becomeText hw H) k_1 rfl (by decide) (Nat.zero_le _) (Nat.zero_le _) (Nat.le_of_ble_eq_true rfl) (fun v_63 h_63 P_63 => ?_)
          obtain ⟨z_63, rfl, rfl, w_63, H⟩ := P_63
          dsimp only [rs]
          refine j_aload_n (dk dt_X9_sign 34 rfl) rfl ?_
          obtain ⟨a_67, e_67, k_67, H⟩ := H
          refine jz_callV0 (dk dt_X9_sign 35 rfl) vl_X9_245 e_67 (T_X8_becomeText w_63 H) k_67 rfl (by decide) (Nat.zero_le _) (Nat.zero_le _) (Nat.le_of_ble_eq_true rfl) (fun v_67 h_67 P_67 => ?_)
          obtain ⟨z_67, rfl, rfl, w_67, H⟩ := P_67
          dsimp only [rs]
          refine j_aload_n (dk dt_X9_sign 36 rfl) rfl ?_
          refine j_aload_n (dk dt_X9_sign 37 rfl) rfl ?_
          refine j_aload_n (dk dt_X9_sign 38 rfl) rfl ?_
          obtain ⟨k_73, H⟩ := H
          refine jz_callV2 (dk dt_X9_sign 39 rfl) vl_X9_248 rfl (T_X9_join w_67 H) k_73 rfl (by decide) (Nat.zero_le _) (Nat.zero_le _) (Nat.le_of_ble_eq_true rfl) (fun v_73 h_73 P_73 => ?_)
          obtain ⟨z_73, rfl, rfl, w_73, H⟩ := P_73
          dsimp only [rs]
          refine j_goto 116 (dk dt_X9_sign 40 rfl) (by decide) ?_
          exact j_el (T_X9_sign_116  w_73   H) trivial
        · refine j_aload_n (dk dt_X9_sign 41 rfl) rfl ?_
          refine j_iconst (v := Int32.ofInt 1) (dk dt_X9_sign 42 rfl) (by decide) ?_
          refine jz_callV1 (dk dt_X9_sign 43 rfl) vl_X9_237 e_1 (T_X8_servesAs (by decide) hw H) k_1 rfl (by decide) (Nat.zero_le _) (Nat.zero_le _) (Nat.le_of_ble_eq_true rfl) (fun v_81 h_81 P_81 => ?_)
          obtain ⟨x_81, rfl, r_81, rfl, H⟩ := P_81
          dsimp only [rs]
          refine jz_if_eq 95 (dk dt_X9_sign 44 rfl) (by decide) r_81 H (fun H => ?_) (fun H => ?_)
          · exact j_el (T_X9_sign_95  hw   H) (And.intro rfl trivial)
          · refine j_aload_n (dk dt_X9_sign 45 rfl) rfl ?_
            refine j_iconst (v := Int32.ofInt 1) (dk dt_X9_sign 46 rfl) (by decide) ?_
            refine jz_callV1 (dk dt_X9_sign 47 rfl) vl_X9_237 e_21 (T_X8_servesAs (by decide) hw H) k_21 rfl (by decide) (Nat.zero_le _) (Nat.zero_le _) (Nat.le_of_ble_eq_true rfl) (fun v_89 h_89 P_89 => ?_)
            obtain ⟨x_89, rfl, r_89, rfl, H⟩ := P_89
            dsimp only [rs]
            refine jz_if_ne 106 (dk dt_X9_sign 48 rfl) (by decide) r_89 H (fun H => ?_) (fun H => ?_)
            · exact j_el (T_X9_sign_95  hw   H) (And.intro rfl trivial)
            · refine j_aload_n (dk dt_X9_sign 54 rfl) rfl ?_
              refine j_iload_n (dk dt_X9_sign 55 rfl) rfl ?_
              refine j_aload_n (dk dt_X9_sign 56 rfl) rfl ?_
              refine j_aload_n (dk dt_X9_sign 57 rfl) rfl ?_
              refine jz_getG (kz := 2) (dk dt_X9_sign 58 rfl) fl_X9_230 rfl rfl e_21 k_21 ?_
              obtain ⟨k_113, H⟩ := H
              refine jz_callV3 (dk dt_X9_sign 59 rfl) vl_X9_252 rfl (T_X9_reckon r_x1 (hw.2.1 _ _) hw H) k_113 rfl (by decide) (Nat.zero_le _) (Nat.zero_le _) (Nat.le_of_ble_eq_true rfl) (fun v_113 h_113 P_113 => ?_)
              obtain ⟨z_113, rfl, rfl, w_113, H⟩ := P_113
              dsimp only [rs]
              exact j_el (T_X9_sign_116  w_113   H) trivial
      · refine j_aload_n (dk dt_X9_sign 23 rfl) rfl ?_
        refine j_iload_n (dk dt_X9_sign 24 rfl) rfl ?_
        refine j_aload_n (dk dt_X9_sign 25 rfl) rfl ?_
        refine j_aload_n (dk dt_X9_sign 26 rfl) rfl ?_
        obtain ⟨k_50, H⟩ := H
        refine jz_callV3 (dk dt_X9_sign 27 rfl) vl_X9_242 rfl (T_X9_compare r_x1 hw H) k_50 rfl (by decide) (Nat.zero_le _) (Nat.zero_le _) (Nat.le_of_ble_eq_true rfl) (fun v_50 h_50 P_50 => ?_)
        obtain ⟨z_50, rfl, rfl, w_50, H⟩ := P_50
        dsimp only [rs]
        refine j_goto 116 (dk dt_X9_sign 28 rfl) (by decide) ?_
        exact j_el (T_X9_sign_116  w_50   H) trivial
def F_X9_takesPlace_35  (s0 : Int) (P : Int → Prop) : Prop :=
  (Z1 s0 ∧ P s0)
theorem T_X9_takesPlace_35  {s0 : Int} {P : Int → Prop} {h : Hp} (r_s0 : R32 s0)    (H : F_X9_takesPlace_35 s0 P) : J mX9_takesPlace 1 0 0 (nx (QPI h P)) 35 [none] [ii (s0)] h := by
  unfold F_X9_takesPlace_35 at H
  obtain ⟨hz_, H⟩ := H
  exact j_ireturn (dk dt_X9_takesPlace 18 rfl) rfl (nar_z hz_) ⟨_, rfl, r_s0, rfl, H⟩
def F_X9_takesPlace_30  (P : Int → Prop) : Prop :=
  F_X9_takesPlace_35 1 P
theorem T_X9_takesPlace_30  {P : Int → Prop} {h : Hp}     (H : F_X9_takesPlace_30 P) : J mX9_takesPlace 1 0 0 (nx (QPI h P)) 30 [none] [] h := by
  unfold F_X9_takesPlace_30 at H
  refine j_iconst (v := Int32.ofInt 1) (dk dt_X9_takesPlace 15 rfl) (by decide) ?_
  refine j_goto 35 (dk dt_X9_takesPlace 16 rfl) (by decide) ?_
  exact j_el (T_X9_takesPlace_35 (by decide)    H) trivial
def F_X9_takesPlace  (x0 : Int) (P : Int → Prop) : Prop :=
  (if x0 = 29 then F_X9_takesPlace_30  P else (if x0 = 30 then F_X9_takesPlace_30  P else (if x0 = 33 then F_X9_takesPlace_30  P else (if x0 = 34 then F_X9_takesPlace_30  P else (if x0 = 35 then F_X9_takesPlace_30  P else F_X9_takesPlace_35 0 P)))))
theorem T_X9_takesPlace  {x0 : Int} {P : Int → Prop} {h : Hp} (r_x0 : R32 x0)   (H : F_X9_takesPlace x0 P) : Con mX9_takesPlace 1 0 0 [ii (x0)] h (QPI h P) := by
  refine con_of rfl (Nat.le_of_ble_eq_true rfl) (by decide) ?_
  show J mX9_takesPlace 1 0 0 _ 0 [some (ii (x0))] [] h
  unfold F_X9_takesPlace at H
  refine j_iload_n (dk dt_X9_takesPlace 0 rfl) rfl ?_
  refine j_bipush (v := Int32.ofInt 29) (dk dt_X9_takesPlace 1 rfl) (by decide) ?_
  refine jz_icmp_eq 30 (dk dt_X9_takesPlace 2 rfl) (by decide) r_x0 (by decide) H (fun H => ?_) (fun H => ?_)
  · exact j_el (T_X9_takesPlace_30     H) trivial
  · refine j_iload_n (dk dt_X9_takesPlace 3 rfl) rfl ?_
    refine j_bipush (v := Int32.ofInt 30) (dk dt_X9_takesPlace 4 rfl) (by decide) ?_
    refine jz_icmp_eq 30 (dk dt_X9_takesPlace 5 rfl) (by decide) r_x0 (by decide) H (fun H => ?_) (fun H => ?_)
    · exact j_el (T_X9_takesPlace_30     H) trivial
    · refine j_iload_n (dk dt_X9_takesPlace 6 rfl) rfl ?_
      refine j_bipush (v := Int32.ofInt 33) (dk dt_X9_takesPlace 7 rfl) (by decide) ?_
      refine jz_icmp_eq 30 (dk dt_X9_takesPlace 8 rfl) (by decide) r_x0 (by decide) H (fun H => ?_) (fun H => ?_)
      · exact j_el (T_X9_takesPlace_30     H) trivial
      · refine j_iload_n (dk dt_X9_takesPlace 9 rfl) rfl ?_
        refine j_bipush (v := Int32.ofInt 34) (dk dt_X9_takesPlace 10 rfl) (by decide) ?_
        refine jz_icmp_eq 30 (dk dt_X9_takesPlace 11 rfl) (by decide) r_x0 (by decide) H (fun H => ?_) (fun H => ?_)
        · exact j_el (T_X9_takesPlace_30     H) trivial
        · refine j_iload_n (dk dt_X9_takesPlace 12 rfl) rfl ?_
          refine j_bipush (v := Int32.ofInt 35) (dk dt_X9_takesPlace 13 rfl) (by decide) ?_
          refine jz_icmp_ne 34 (dk dt_X9_takesPlace 14 rfl) (by decide) r_x0 (by decide) H (fun H => ?_) (fun H => ?_)
          · exact j_el (T_X9_takesPlace_30     H) trivial
          · refine j_iconst (v := Int32.ofInt 0) (dk dt_X9_takesPlace 17 rfl) (by decide) ?_
            exact j_el (T_X9_takesPlace_35 (by decide)    H) trivial
def F_X9_workCell_247  (t0 : Nat) (x1 : Int) (x2 : Int) (z : Z) (P : (Int × Z) ⊕ ((Z) ⊕ (Z)) → Prop) : Prop :=
  P (.inl (w32 (x2 + 1), z))
theorem T_X9_workCell_247  {t0 : Nat} {x1 : Int} {x2 : Int} {z : Z} {P : (Int × Z) ⊕ ((Z) ⊕ (Z)) → Prop} {post : Option Sv ⊕ String → Hp → Prop} (r_x1 : R32 x1) (r_x2 : R32 x2) (hw : Wz z)  (hl : ∀ (x2 : Int) (z : Z), P (.inl (x2, z)) → Wz z → R32 x2 → J mX9_workCell 10 0 0 post 23 [some (vr (some t0)), some (ii (x1)), some (ii (x2)), none] [] (cz z)) (he0 : ∀ (z : Z), P (.inr (.inl z)) → Wz z → J mX9_workCell 10 0 0 post 253 [some (vr (some t0)), some (ii (x1)), none, none] [] (cz z)) (he1 : ∀ (z : Z), P (.inr (.inr z)) → Wz z → J mX9_workCell 10 0 0 post 66 [none, none, none, none] [] (cz z)) (H : F_X9_workCell_247 t0 x1 x2 z P) : J mX9_workCell 10 0 0 (post) 247 [some (vr (some t0)), some (ii (x1)), some (ii (x2)), none] [] (cz z) := by
  unfold F_X9_workCell_247 at H
  refine jz_iinc (dk dt_X9_workCell 131 rfl) rfl ?_
  refine j_goto 23 (dk dt_X9_workCell 132 rfl) (by decide) ?_
  exact j_el (hl _ _ H hw (r32_w _)) (And.intro rfl (And.intro rfl (And.intro rfl trivial)))
def F_X9_workCell_198  (t0 : Nat) (x1 : Int) (x2 : Int) (x3 : Option Nat) (z : Z) (P : (Int × Z) ⊕ ((Z) ⊕ (Z)) → Prop) : Prop :=
  (∃ a_199, x3 = some a_199 ∧ zK z a_199 = 5 ∧ F_X9_takesPlace (zI z a_199 0) (fun x_202 => (if x_202 = 0 then (zK z t0 = 10 ∧ F_X9_call t0 (zI z a_199 0) (w32 ((zI z t0 10) - 1)) (zI z a_199 1) z (fun z_244 => F_X9_workCell_247 t0 x1 x2 z_244 P)) else (zK z t0 = 10 ∧ F_X9_callOfPlace t0 (zI z a_199 0) (w32 ((zI z t0 10) - 1)) (zI z a_199 1) z (fun z_223 => F_X9_workCell_247 t0 x1 x2 z_223 P)))))
theorem T_X9_workCell_198  {t0 : Nat} {x1 : Int} {x2 : Int} {x3 : Option Nat} {z : Z} {P : (Int × Z) ⊕ ((Z) ⊕ (Z)) → Prop} {post : Option Sv ⊕ String → Hp → Prop} (r_x1 : R32 x1) (r_x2 : R32 x2) (hw : Wz z)  (hl : ∀ (x2 : Int) (z : Z), P (.inl (x2, z)) → Wz z → R32 x2 → J mX9_workCell 10 0 0 post 23 [some (vr (some t0)), some (ii (x1)), some (ii (x2)), none] [] (cz z)) (he0 : ∀ (z : Z), P (.inr (.inl z)) → Wz z → J mX9_workCell 10 0 0 post 253 [some (vr (some t0)), some (ii (x1)), none, none] [] (cz z)) (he1 : ∀ (z : Z), P (.inr (.inr z)) → Wz z → J mX9_workCell 10 0 0 post 66 [none, none, none, none] [] (cz z)) (H : F_X9_workCell_198 t0 x1 x2 x3 z P) : J mX9_workCell 10 0 0 (post) 198 [some (vr (some t0)), some (ii (x1)), some (ii (x2)), some (vr (x3))] [] (cz z) := by
  unfold F_X9_workCell_198 at H
  refine j_aload_n (dk dt_X9_workCell 106 rfl) rfl ?_
  obtain ⟨a_199, e_199, k_199, H⟩ := H
  refine jz_getI (kz := 0) (dk dt_X9_workCell 107 rfl) fl_X9_91 rfl rfl e_199 k_199 ?_
  refine j_callS1 (dk dt_X9_workCell 108 rfl) sl_X9_183 (T_X9_takesPlace (hw.1 _ _) H) rfl (by decide) (Nat.zero_le _) (Nat.zero_le _) (Nat.le_of_ble_eq_true rfl) (fun v_202 h_202 P_202 => ?_)
  obtain ⟨x_202, rfl, r_202, rfl, H⟩ := P_202
  dsimp only [rs]
  refine jz_if_eq 229 (dk dt_X9_workCell 109 rfl) (by decide) r_202 H (fun H => ?_) (fun H => ?_)
  · refine j_aload_n (dk dt_X9_workCell 121 rfl) rfl ?_
    refine j_aload_n (dk dt_X9_workCell 122 rfl) rfl ?_
    refine jz_getI (kz := 0) (dk dt_X9_workCell 123 rfl) fl_X9_91 rfl rfl e_199 k_199 ?_
    refine j_aload_n (dk dt_X9_workCell 124 rfl) rfl ?_
    obtain ⟨k_235, H⟩ := H
    refine jz_getI (kz := 10) (dk dt_X9_workCell 125 rfl) fl_X9_161 rfl rfl rfl k_235 ?_
    refine j_iconst (v := Int32.ofInt 1) (dk dt_X9_workCell 126 rfl) (by decide) ?_
    refine jz_isub (dk dt_X9_workCell 127 rfl) ?_
    refine j_aload_n (dk dt_X9_workCell 128 rfl) rfl ?_
    refine jz_getI (kz := 1) (dk dt_X9_workCell 129 rfl) fl_X9_164 rfl rfl e_199 k_199 ?_
    refine jz_callV3 (dk dt_X9_workCell 130 rfl) vl_X9_189 rfl (T_X9_call (hw.1 _ _) (r32_w _) (hw.1 _ _) hw H) k_235 rfl (by decide) (Nat.zero_le _) (Nat.zero_le _) (Nat.le_of_ble_eq_true rfl) (fun v_244 h_244 P_244 => ?_)
    obtain ⟨z_244, rfl, rfl, w_244, H⟩ := P_244
    dsimp only [rs]
    exact j_el (T_X9_workCell_247 r_x1 r_x2 w_244  hl he0 he1 H) (And.intro rfl (And.intro rfl (And.intro rfl trivial)))
  · refine j_aload_n (dk dt_X9_workCell 110 rfl) rfl ?_
    refine j_aload_n (dk dt_X9_workCell 111 rfl) rfl ?_
    refine jz_getI (kz := 0) (dk dt_X9_workCell 112 rfl) fl_X9_91 rfl rfl e_199 k_199 ?_
    refine j_aload_n (dk dt_X9_workCell 113 rfl) rfl ?_
    obtain ⟨k_214, H⟩ := H
    refine jz_getI (kz := 10) (dk dt_X9_workCell 114 rfl) fl_X9_161 rfl rfl rfl k_214 ?_
    refine j_iconst (v := Int32.ofInt 1) (dk dt_X9_workCell 115 rfl) (by decide) ?_
    refine jz_isub (dk dt_X9_workCell 116 rfl) ?_
    refine j_aload_n (dk dt_X9_workCell 117 rfl) rfl ?_
    refine jz_getI (kz := 1) (dk dt_X9_workCell 118 rfl) fl_X9_164 rfl rfl e_199 k_199 ?_
    refine jz_callV3 (dk dt_X9_workCell 119 rfl) vl_X9_186 rfl (T_X9_callOfPlace (hw.1 _ _) (r32_w _) (hw.1 _ _) hw H) k_214 rfl (by decide) (Nat.zero_le _) (Nat.zero_le _) (Nat.le_of_ble_eq_true rfl) (fun v_223 h_223 P_223 => ?_)
    obtain ⟨z_223, rfl, rfl, w_223, H⟩ := P_223
    dsimp only [rs]
    refine j_goto 247 (dk dt_X9_workCell 120 rfl) (by decide) ?_
    exact j_el (T_X9_workCell_247 r_x1 r_x2 w_223  hl he0 he1 H) (And.intro rfl (And.intro rfl (And.intro rfl trivial)))
def L_X9_workCell_23  (t0 : Nat) (x1 : Int) (x2 : Int) (z : Z) (P : (Int × Z) ⊕ ((Z) ⊕ (Z)) → Prop) : Prop :=
  (zK z t0 = 10 ∧ (∃ a_28, zO z t0 9 = some a_28 ∧ zK z a_28 = 20 ∧ (if zN z a_28 ≤ x2 then P (.inr (.inl z)) else (0 ≤ x2 ∧ x2 < zN z a_28 ∧ (∃ a_40, zO z a_28 x2 = some a_40 ∧ zK z a_40 = 5 ∧ (if zI z a_40 1 = 0 then F_X9_push t0 (zO z a_28 x2) x2 z (fun z_49 => F_X9_workCell_247 t0 x1 x2 z_49 P) else (if zI z a_40 1 ≤ zI z t0 10 then (if zI z a_40 0 = 13 then (∃ a_87, zO z t0 1 = some a_87 ∧ zK z a_87 = 22 ∧ (0 ≤ w32 ((zI z t0 10) - 1) ∧ w32 ((zI z t0 10) - 1) < zN z a_87 ∧ F_X9_negate t0 (zO z a_87 (w32 ((zI z t0 10) - 1))) z (fun z_88 => F_X9_workCell_247 t0 x1 x2 z_88 P))) else (if 12 < zI z a_40 0 then (∀ z_156, z_156 = wI z t0 10 (w32 (w32 ((zI z t0 10) - (zI z a_40 1)) + 1)) → (∃ a_160, zO z a_28 x2 = some a_160 ∧ zK z_156 a_160 = 5 ∧ (if zI z_156 a_160 0 < 19 then F_X9_workCell_198 t0 x1 x2 (zO z a_28 x2) z_156 P else (if 24 < zI z_156 a_160 0 then F_X9_workCell_198 t0 x1 x2 (zO z a_28 x2) z_156 P else F_X9_gather t0 (zI z_156 a_160 0) (w32 ((zI z_156 t0 10) - 1)) (zI z_156 a_160 1) z_156 (fun z_192 => F_X9_workCell_247 t0 x1 x2 z_192 P))))) else (∀ z_110, z_110 = wI z t0 10 (w32 ((zI z t0 10) - 1)) → (∃ a_115, zO z a_28 x2 = some a_115 ∧ zK z_110 a_115 = 5 ∧ (∃ a_128, zO z_110 t0 1 = some a_128 ∧ zK z_110 a_128 = 22 ∧ (0 ≤ w32 ((zI z_110 t0 10) - 1) ∧ w32 ((zI z_110 t0 10) - 1) < zN z_110 a_128 ∧ (0 ≤ zI z_110 t0 10 ∧ zI z_110 t0 10 < zN z_110 a_128 ∧ F_X9_sign t0 (zI z_110 a_115 0) (zO z_110 a_128 (w32 ((zI z_110 t0 10) - 1))) (zO z_110 a_128 (zI z_110 t0 10)) z_110 (fun z_138 => F_X9_workCell_247 t0 x1 x2 z_138 P)))))))) else P (.inr (.inr z)))))))))
theorem U_X9_workCell_23  {t0 : Nat} {x1 : Int} {x2 : Int} {z : Z} {P : (Int × Z) ⊕ ((Z) ⊕ (Z)) → Prop} {post : Option Sv ⊕ String → Hp → Prop} (r_x1 : R32 x1) (r_x2 : R32 x2) (hw : Wz z)  (hl : ∀ (x2 : Int) (z : Z), P (.inl (x2, z)) → Wz z → R32 x2 → J mX9_workCell 10 0 0 post 23 [some (vr (some t0)), some (ii (x1)), some (ii (x2)), none] [] (cz z)) (he0 : ∀ (z : Z), P (.inr (.inl z)) → Wz z → J mX9_workCell 10 0 0 post 253 [some (vr (some t0)), some (ii (x1)), none, none] [] (cz z)) (he1 : ∀ (z : Z), P (.inr (.inr z)) → Wz z → J mX9_workCell 10 0 0 post 66 [none, none, none, none] [] (cz z)) (H : L_X9_workCell_23 t0 x1 x2 z P) : J mX9_workCell 10 0 0 post 23 [some (vr (some t0)), some (ii (x1)), some (ii (x2)), none] [] (cz z) := by
  unfold L_X9_workCell_23 at H
  refine j_iload_n (dk dt_X9_workCell 13 rfl) rfl ?_
  refine j_aload_n (dk dt_X9_workCell 14 rfl) rfl ?_
  obtain ⟨k_25, H⟩ := H
  refine jz_getO (kz := 9) (dk dt_X9_workCell 15 rfl) fl_X9_87 rfl rfl rfl k_25 ?_
  obtain ⟨a_28, e_28, k_28, H⟩ := H
  refine jz_alen (t := 6) (dk dt_X9_workCell 16 rfl) e_28 k_28 (by decide) hw ?_
  refine jz_icmp_ge 253 (dk dt_X9_workCell 17 rfl) (by decide) r_x2 (r32_len hw _) H (fun H => ?_) (fun H => ?_)
  · exact j_el (he0 _ H hw) (And.intro rfl (And.intro rfl trivial))
  · refine j_aload_n (dk dt_X9_workCell 18 rfl) rfl ?_
    refine jz_getO (kz := 9) (dk dt_X9_workCell 19 rfl) fl_X9_87 rfl rfl rfl k_25 ?_
    refine j_iload_n (dk dt_X9_workCell 20 rfl) rfl ?_
    obtain ⟨p_37, q_37, H⟩ := H
    refine jz_aald (t := 6) (dk dt_X9_workCell 21 rfl) e_28 k_28 (by decide) (by decide) p_37 q_37 hw ?_
    refine j_astore_n (dk dt_X9_workCell 22 rfl) (by decide) ?_
    refine j_aload_n (dk dt_X9_workCell 23 rfl) rfl ?_
    obtain ⟨a_40, e_40, k_40, H⟩ := H
    refine jz_getI (kz := 1) (dk dt_X9_workCell 24 rfl) fl_X9_164 rfl rfl e_40 k_40 ?_
    refine jz_if_ne 55 (dk dt_X9_workCell 25 rfl) (by decide) (hw.1 _ _) H (fun H => ?_) (fun H => ?_)
    · refine j_aload_n (dk dt_X9_workCell 26 rfl) rfl ?_
      refine j_aload_n (dk dt_X9_workCell 27 rfl) rfl ?_
      refine j_iload_n (dk dt_X9_workCell 28 rfl) rfl ?_
      refine jz_callV2 (dk dt_X9_workCell 29 rfl) vl_X9_167 rfl (T_X9_push r_x2 hw H) k_25 rfl (by decide) (Nat.zero_le _) (Nat.zero_le _) (Nat.le_of_ble_eq_true rfl) (fun v_49 h_49 P_49 => ?_)
      obtain ⟨z_49, rfl, rfl, w_49, H⟩ := P_49
      dsimp only [rs]
      refine j_goto 247 (dk dt_X9_workCell 30 rfl) (by decide) ?_
      exact j_el (T_X9_workCell_247 r_x1 r_x2 w_49  hl he0 he1 H) (And.intro rfl (And.intro rfl (And.intro rfl trivial)))
    · refine j_aload_n (dk dt_X9_workCell 31 rfl) rfl ?_
      refine jz_getI (kz := 1) (dk dt_X9_workCell 32 rfl) fl_X9_164 rfl rfl e_40 k_40 ?_
      refine j_aload_n (dk dt_X9_workCell 33 rfl) rfl ?_
      refine jz_getI (kz := 10) (dk dt_X9_workCell 34 rfl) fl_X9_161 rfl rfl rfl k_25 ?_
      refine jz_icmp_le 67 (dk dt_X9_workCell 35 rfl) (by decide) (hw.1 _ _) (hw.1 _ _) H (fun H => ?_) (fun H => ?_)
      · refine j_aload_n (dk dt_X9_workCell 37 rfl) rfl ?_
        refine jz_getI (kz := 0) (dk dt_X9_workCell 38 rfl) fl_X9_91 rfl rfl e_40 k_40 ?_
        refine j_bipush (v := Int32.ofInt 13) (dk dt_X9_workCell 39 rfl) (by decide) ?_
        refine jz_icmp_ne 94 (dk dt_X9_workCell 40 rfl) (by decide) (hw.1 _ _) (by decide) H (fun H => ?_) (fun H => ?_)
        · refine j_aload_n (dk dt_X9_workCell 41 rfl) rfl ?_
          refine j_aload_n (dk dt_X9_workCell 42 rfl) rfl ?_
          refine jz_getO (kz := 1) (dk dt_X9_workCell 43 rfl) fl_X9_11 rfl rfl rfl k_25 ?_
          refine j_aload_n (dk dt_X9_workCell 44 rfl) rfl ?_
          refine jz_getI (kz := 10) (dk dt_X9_workCell 45 rfl) fl_X9_161 rfl rfl rfl k_25 ?_
          refine j_iconst (v := Int32.ofInt 1) (dk dt_X9_workCell 46 rfl) (by decide) ?_
          refine jz_isub (dk dt_X9_workCell 47 rfl) ?_
          obtain ⟨a_87, e_87, k_87, H⟩ := H
          obtain ⟨p_87, q_87, H⟩ := H
          refine jz_aald (t := 8) (dk dt_X9_workCell 48 rfl) e_87 k_87 (by decide) (by decide) p_87 q_87 hw ?_
          refine jz_callV1 (dk dt_X9_workCell 49 rfl) vl_X9_171 rfl (T_X9_negate hw H) k_25 rfl (by decide) (Nat.zero_le _) (Nat.zero_le _) (Nat.le_of_ble_eq_true rfl) (fun v_88 h_88 P_88 => ?_)
          obtain ⟨z_88, rfl, rfl, w_88, H⟩ := P_88
          dsimp only [rs]
          refine j_goto 247 (dk dt_X9_workCell 50 rfl) (by decide) ?_
          exact j_el (T_X9_workCell_247 r_x1 r_x2 w_88  hl he0 he1 H) (And.intro rfl (And.intro rfl (And.intro rfl trivial)))
        · refine j_aload_n (dk dt_X9_workCell 51 rfl) rfl ?_
          refine jz_getI (kz := 0) (dk dt_X9_workCell 52 rfl) fl_X9_91 rfl rfl e_40 k_40 ?_
          refine j_bipush (v := Int32.ofInt 12) (dk dt_X9_workCell 53 rfl) (by decide) ?_
          refine jz_icmp_gt 144 (dk dt_X9_workCell 54 rfl) (by decide) (hw.1 _ _) (by decide) H (fun H => ?_) (fun H => ?_)
          · refine j_aload_n (dk dt_X9_workCell 78 rfl) rfl ?_
            refine j_aload_n (dk dt_X9_workCell 79 rfl) rfl ?_
            refine jz_getI (kz := 10) (dk dt_X9_workCell 80 rfl) fl_X9_161 rfl rfl rfl k_25 ?_
            refine j_aload_n (dk dt_X9_workCell 81 rfl) rfl ?_
            refine jz_getI (kz := 1) (dk dt_X9_workCell 82 rfl) fl_X9_164 rfl rfl e_40 k_40 ?_
            refine jz_isub (dk dt_X9_workCell 83 rfl) ?_
            refine j_iconst (v := Int32.ofInt 1) (dk dt_X9_workCell 84 rfl) (by decide) ?_
            refine jz_iadd (dk dt_X9_workCell 85 rfl) ?_
            refine jz_putI (kz := 10) (dk dt_X9_workCell 86 rfl) fl_X9_161 rfl rfl rfl rfl rfl k_25 hw (r32_w _) (fun w_156 => ?_)
            replace H := H _ rfl
            refine j_aload_n (dk dt_X9_workCell 87 rfl) rfl ?_
            obtain ⟨a_160, e_160, k_160, H⟩ := H
            refine jz_getI (kz := 0) (dk dt_X9_workCell 88 rfl) fl_X9_91 rfl rfl e_160 k_160 ?_
            refine j_bipush (v := Int32.ofInt 19) (dk dt_X9_workCell 89 rfl) (by decide) ?_
            refine jz_icmp_lt 198 (dk dt_X9_workCell 90 rfl) (by decide) (w_156.1 _ _) (by decide) H (fun H => ?_) (fun H => ?_)
            · exact j_el (T_X9_workCell_198 r_x1 r_x2 w_156  hl he0 he1 H) (And.intro rfl (And.intro rfl (And.intro rfl (And.intro rfl trivial))))
            · refine j_aload_n (dk dt_X9_workCell 91 rfl) rfl ?_
              refine jz_getI (kz := 0) (dk dt_X9_workCell 92 rfl) fl_X9_91 rfl rfl e_160 k_160 ?_
              refine j_bipush (v := Int32.ofInt 24) (dk dt_X9_workCell 93 rfl) (by decide) ?_
              refine jz_icmp_gt 198 (dk dt_X9_workCell 94 rfl) (by decide) (w_156.1 _ _) (by decide) H (fun H => ?_) (fun H => ?_)
              · exact j_el (T_X9_workCell_198 r_x1 r_x2 w_156  hl he0 he1 H) (And.intro rfl (And.intro rfl (And.intro rfl (And.intro rfl trivial))))
              · refine j_aload_n (dk dt_X9_workCell 95 rfl) rfl ?_
                refine j_aload_n (dk dt_X9_workCell 96 rfl) rfl ?_
                refine jz_getI (kz := 0) (dk dt_X9_workCell 97 rfl) fl_X9_91 rfl rfl e_160 k_160 ?_
                refine j_aload_n (dk dt_X9_workCell 98 rfl) rfl ?_
                refine jz_getI (kz := 10) (dk dt_X9_workCell 99 rfl) fl_X9_161 rfl rfl rfl k_25 ?_
                refine j_iconst (v := Int32.ofInt 1) (dk dt_X9_workCell 100 rfl) (by decide) ?_
                refine jz_isub (dk dt_X9_workCell 101 rfl) ?_
                refine j_aload_n (dk dt_X9_workCell 102 rfl) rfl ?_
                refine jz_getI (kz := 1) (dk dt_X9_workCell 103 rfl) fl_X9_164 rfl rfl e_160 k_160 ?_
                refine jz_callV3 (dk dt_X9_workCell 104 rfl) vl_X9_179 rfl (T_X9_gather (w_156.1 _ _) (r32_w _) (w_156.1 _ _) w_156 H) k_25 rfl (by decide) (Nat.zero_le _) (Nat.zero_le _) (Nat.le_of_ble_eq_true rfl) (fun v_192 h_192 P_192 => ?_)
                obtain ⟨z_192, rfl, rfl, w_192, H⟩ := P_192
                dsimp only [rs]
                refine j_goto 247 (dk dt_X9_workCell 105 rfl) (by decide) ?_
                exact j_el (T_X9_workCell_247 r_x1 r_x2 w_192  hl he0 he1 H) (And.intro rfl (And.intro rfl (And.intro rfl trivial)))
          · refine j_aload_n (dk dt_X9_workCell 55 rfl) rfl ?_
            refine j_dup (dk dt_X9_workCell 56 rfl) rfl ?_
            refine jz_getI (kz := 10) (dk dt_X9_workCell 57 rfl) fl_X9_161 rfl rfl rfl k_25 ?_
            refine j_iconst (v := Int32.ofInt 1) (dk dt_X9_workCell 58 rfl) (by decide) ?_
            refine jz_isub (dk dt_X9_workCell 59 rfl) ?_
            refine jz_putI (kz := 10) (dk dt_X9_workCell 60 rfl) fl_X9_161 rfl rfl rfl rfl rfl k_25 hw (r32_w _) (fun w_110 => ?_)
            replace H := H _ rfl
            refine j_aload_n (dk dt_X9_workCell 61 rfl) rfl ?_
            refine j_aload_n (dk dt_X9_workCell 62 rfl) rfl ?_
            obtain ⟨a_115, e_115, k_115, H⟩ := H
            refine jz_getI (kz := 0) (dk dt_X9_workCell 63 rfl) fl_X9_91 rfl rfl e_115 k_115 ?_
            refine j_aload_n (dk dt_X9_workCell 64 rfl) rfl ?_
            refine jz_getO (kz := 1) (dk dt_X9_workCell 65 rfl) fl_X9_11 rfl rfl rfl k_25 ?_
            refine j_aload_n (dk dt_X9_workCell 66 rfl) rfl ?_
            refine jz_getI (kz := 10) (dk dt_X9_workCell 67 rfl) fl_X9_161 rfl rfl rfl k_25 ?_
            refine j_iconst (v := Int32.ofInt 1) (dk dt_X9_workCell 68 rfl) (by decide) ?_
            refine jz_isub (dk dt_X9_workCell 69 rfl) ?_
            obtain ⟨a_128, e_128, k_128, H⟩ := H
            obtain ⟨p_128, q_128, H⟩ := H
            refine jz_aald (t := 8) (dk dt_X9_workCell 70 rfl) e_128 k_128 (by decide) (by decide) p_128 q_128 w_110 ?_
            refine j_aload_n (dk dt_X9_workCell 71 rfl) rfl ?_
            refine jz_getO (kz := 1) (dk dt_X9_workCell 72 rfl) fl_X9_11 rfl rfl rfl k_25 ?_
            refine j_aload_n (dk dt_X9_workCell 73 rfl) rfl ?_
            refine jz_getI (kz := 10) (dk dt_X9_workCell 74 rfl) fl_X9_161 rfl rfl rfl k_25 ?_
            obtain ⟨p_137, q_137, H⟩ := H
            refine jz_aald (t := 8) (dk dt_X9_workCell 75 rfl) e_128 k_128 (by decide) (by decide) p_137 q_137 w_110 ?_
            refine jz_callV3 (dk dt_X9_workCell 76 rfl) vl_X9_175 rfl (T_X9_sign (w_110.1 _ _) w_110 H) k_25 rfl (by decide) (Nat.zero_le _) (Nat.zero_le _) (Nat.le_of_ble_eq_true rfl) (fun v_138 h_138 P_138 => ?_)
            obtain ⟨z_138, rfl, rfl, w_138, H⟩ := P_138
            dsimp only [rs]
            refine j_goto 247 (dk dt_X9_workCell 77 rfl) (by decide) ?_
            exact j_el (T_X9_workCell_247 r_x1 r_x2 w_138  hl he0 he1 H) (And.intro rfl (And.intro rfl (And.intro rfl trivial)))
      · exact j_el (he1 _ H hw) trivial
def F_X9_workCell_273  (t0 : Nat) (x1 : Int) (x2 : Option Nat) (z : Z) (P : Z → Prop) : Prop :=
  (zK z t0 = 10 ∧ (∃ a_277, zO z t0 8 = some a_277 ∧ zK z a_277 = 7 ∧ (∃ a_281, zO z a_277 3 = some a_281 ∧ zK z a_281 = 22 ∧ (0 ≤ x1 ∧ x1 < zN z a_281 ∧ (∃ a_283, zO z a_281 x1 = some a_283 ∧ zK z a_283 = 9 ∧ F_X8_take a_283 x2 z (fun z_283 => P z_283))))))
theorem T_X9_workCell_273  {t0 : Nat} {x1 : Int} {x2 : Option Nat} {z : Z} {P : Z → Prop} (r_x1 : R32 x1) (hw : Wz z)   (H : F_X9_workCell_273 t0 x1 x2 z P) : J mX9_workCell 10 0 0 (nx (QZV P)) 273 [some (vr (some t0)), some (ii (x1)), some (vr (x2)), none] [] (cz z) := by
  unfold F_X9_workCell_273 at H
  refine j_aload_n (dk dt_X9_workCell 145 rfl) rfl ?_
  obtain ⟨k_274, H⟩ := H
  refine jz_getO (kz := 8) (dk dt_X9_workCell 146 rfl) fl_X9_45 rfl rfl rfl k_274 ?_
  obtain ⟨a_277, e_277, k_277, H⟩ := H
  refine jz_getO (kz := 3) (dk dt_X9_workCell 147 rfl) fl_X9_49 rfl rfl e_277 k_277 ?_
  refine j_iload_n (dk dt_X9_workCell 148 rfl) rfl ?_
  obtain ⟨a_281, e_281, k_281, H⟩ := H
  obtain ⟨p_281, q_281, H⟩ := H
  refine jz_aald (t := 8) (dk dt_X9_workCell 149 rfl) e_281 k_281 (by decide) (by decide) p_281 q_281 hw ?_
  refine j_aload_n (dk dt_X9_workCell 150 rfl) rfl ?_
  obtain ⟨a_283, e_283, k_283, H⟩ := H
  refine jz_callV1 (dk dt_X9_workCell 151 rfl) vl_X9_195 e_283 (T_X8_take hw H) k_283 rfl (by decide) (Nat.zero_le _) (Nat.zero_le _) (Nat.le_of_ble_eq_true rfl) (fun v_283 h_283 P_283 => ?_)
  obtain ⟨z_283, rfl, rfl, w_283, H⟩ := P_283
  dsimp only [rs]
  exact j_return (dk dt_X9_workCell 152 rfl) rfl ⟨_, rfl, rfl, w_283, H⟩
def F_X9_workCell_23  (t0 : Nat) (x1 : Int) (x2 : Int) (z : Z) (P : Z → Prop) : Prop :=
  lp (S := Int × Z) (E := (Z) ⊕ (Z)) (fun q P_ => L_X9_workCell_23 t0 x1 q.1 q.2 P_) (x2, z) (fun e => match e with | (.inl z) => (zK z t0 = 10 ∧ (∃ a_258, zO z t0 1 = some a_258 ∧ zK z a_258 = 22 ∧ ((0 : Int) ≤ 0 ∧ 0 < zN z a_258 ∧ (∃ a_261, zO z a_258 0 = some a_261 ∧ zK z a_261 = 9 ∧ (if zI z a_261 1 = 0 then F_X8_set a_261 1 0 z (fun z_270 => F_X9_workCell_273 t0 x1 (zO z a_258 0) z_270 P) else F_X9_workCell_273 t0 x1 (zO z a_258 0) z P))))) | (.inr z) => P z)
theorem T_X9_workCell_23  {t0 : Nat} {x1 : Int} {x2 : Int} {z : Z} {P : Z → Prop} (r_x1 : R32 x1) (r_x2 : R32 x2) (hw : Wz z)   (H : F_X9_workCell_23 t0 x1 x2 z P) : J mX9_workCell 10 0 0 (nx (QZV P)) 23 [some (vr (some t0)), some (ii (x1)), some (ii (x2)), none] [] (cz z) := by
  unfold F_X9_workCell_23 at H
  refine lp_J (G := fun q => Wz (q.2) → R32 (q.1) → J mX9_workCell 10 0 0 (nx (QZV P)) 23 [some (vr (some t0)), some (ii (x1)), some (ii ((q.1))), none] [] (cz (q.2))) (fun q P_ hl_ he_ Hb => ?_) (x2, z) H hw r_x2
  obtain ⟨x2, z⟩ := q
  intro hw r_x2
  refine U_X9_workCell_23 (P := P_) r_x1 r_x2 hw  (fun x2 z Hp hw r_x2 => hl_ (x2, z) Hp hw r_x2) ?_ ?_ Hb
  · intro z Hp hw
    have H := he_ _ Hp
    refine j_aload_n (dk dt_X9_workCell 133 rfl) rfl ?_
    obtain ⟨k_254, H⟩ := H
    refine jz_getO (kz := 1) (dk dt_X9_workCell 134 rfl) fl_X9_11 rfl rfl rfl k_254 ?_
    refine j_iconst (v := Int32.ofInt 0) (dk dt_X9_workCell 135 rfl) (by decide) ?_
    obtain ⟨a_258, e_258, k_258, H⟩ := H
    obtain ⟨p_258, q_258, H⟩ := H
    refine jz_aald (t := 8) (dk dt_X9_workCell 136 rfl) e_258 k_258 (by decide) (by decide) p_258 q_258 hw ?_
    refine j_astore_n (dk dt_X9_workCell 137 rfl) (by decide) ?_
    refine j_aload_n (dk dt_X9_workCell 138 rfl) rfl ?_
    obtain ⟨a_261, e_261, k_261, H⟩ := H
    refine jz_getI (kz := 1) (dk dt_X9_workCell 139 rfl) fl_X9_192 rfl rfl e_261 k_261 ?_
    refine jz_if_ne 273 (dk dt_X9_workCell 140 rfl) (by decide) (hw.1 _ _) H (fun H => ?_) (fun H => ?_)
    · refine j_aload_n (dk dt_X9_workCell 141 rfl) rfl ?_
      refine j_iconst (v := Int32.ofInt 1) (dk dt_X9_workCell 142 rfl) (by decide) ?_
      refine j_lconst (v := Int64.ofInt 0) (dk dt_X9_workCell 143 rfl) (by decide) ?_
      refine jz_callV2 (dk dt_X9_workCell 144 rfl) vl_X9_145 e_261 (T_X8_set (by decide) (by decide) hw H) k_261 rfl (by decide) (Nat.zero_le _) (Nat.zero_le _) (Nat.le_of_ble_eq_true rfl) (fun v_270 h_270 P_270 => ?_)
      obtain ⟨z_270, rfl, rfl, w_270, H⟩ := P_270
      dsimp only [rs]
      exact j_el (T_X9_workCell_273 r_x1 w_270   H) (And.intro rfl (And.intro rfl (And.intro rfl trivial)))
    · exact j_el (T_X9_workCell_273 r_x1 hw   H) (And.intro rfl (And.intro rfl (And.intro rfl trivial)))
  · intro z Hp hw
    have H := he_ _ Hp
    exact j_return (dk dt_X9_workCell 36 rfl) rfl ⟨_, rfl, rfl, hw, H⟩
def F_X9_workCell  (t0 : Nat) (x1 : Int) (z : Z) (P : Z → Prop) : Prop :=
  (zK z t0 = 10 ∧ (∃ a_5, zO z t0 8 = some a_5 ∧ zK z a_5 = 7 ∧ (∃ a_9, zO z a_5 2 = some a_9 ∧ zK z a_9 = 19 ∧ (0 ≤ x1 ∧ x1 < zN z a_9 ∧ (∃ a_10, zO z a_9 x1 = some a_10 ∧ zK z a_10 = 2 ∧ (∀ z_13, z_13 = wO z t0 9 (zO z a_10 2) → (∀ z_18, z_18 = wI z_13 t0 10 0 → F_X9_workCell_23 t0 x1 0 z_18 P)))))))
theorem T_X9_workCell  {t0 : Nat} {x1 : Int} {z : Z} {P : Z → Prop} (r_x1 : R32 x1) (hw : Wz z)  (H : F_X9_workCell t0 x1 z P) : Con mX9_workCell 10 0 0 [vr (some t0), ii (x1)] (cz z) (QZV P) := by
  refine con_of rfl (Nat.le_of_ble_eq_true rfl) (by decide) ?_
  show J mX9_workCell 10 0 0 _ 0 [some (vr (some t0)), some (ii (x1)), none, none] [] (cz z)
  unfold F_X9_workCell at H
  refine j_aload_n (dk dt_X9_workCell 0 rfl) rfl ?_
  refine j_aload_n (dk dt_X9_workCell 1 rfl) rfl ?_
  obtain ⟨k_2, H⟩ := H
  refine jz_getO (kz := 8) (dk dt_X9_workCell 2 rfl) fl_X9_45 rfl rfl rfl k_2 ?_
  obtain ⟨a_5, e_5, k_5, H⟩ := H
  refine jz_getO (kz := 2) (dk dt_X9_workCell 3 rfl) fl_X9_58 rfl rfl e_5 k_5 ?_
  refine j_iload_n (dk dt_X9_workCell 4 rfl) rfl ?_
  obtain ⟨a_9, e_9, k_9, H⟩ := H
  obtain ⟨p_9, q_9, H⟩ := H
  refine jz_aald (t := 5) (dk dt_X9_workCell 5 rfl) e_9 k_9 (by decide) (by decide) p_9 q_9 hw ?_
  obtain ⟨a_10, e_10, k_10, H⟩ := H
  refine jz_getO (kz := 2) (dk dt_X9_workCell 6 rfl) fl_X9_97 rfl rfl e_10 k_10 ?_
  refine jz_putO (kz := 9) (dk dt_X9_workCell 7 rfl) fl_X9_87 rfl rfl rfl k_2 hw (fun w_13 => ?_)
  replace H := H _ rfl
  refine j_aload_n (dk dt_X9_workCell 8 rfl) rfl ?_
  refine j_iconst (v := Int32.ofInt 0) (dk dt_X9_workCell 9 rfl) (by decide) ?_
  refine jz_putI (kz := 10) (dk dt_X9_workCell 10 rfl) fl_X9_161 rfl rfl rfl rfl rfl k_2 w_13 (by decide) (fun w_18 => ?_)
  replace H := H _ rfl
  refine j_iconst (v := Int32.ofInt 0) (dk dt_X9_workCell 11 rfl) (by decide) ?_
  refine j_istore_n (dk dt_X9_workCell 12 rfl) (by decide) ?_
  exact j_el (T_X9_workCell_23 r_x1 (by decide) w_18   H) (And.intro rfl (And.intro rfl (And.intro rfl trivial)))
def F_X9_work_119  (t0 : Nat) (x2 : Option Nat) (x3 : Int) (x4 : Int) (z : Z) (c : Nat) (s : Nat) (P : (Int × Z × Nat × Nat) ⊕ ((Z × Nat × Nat)) → Prop) : Prop :=
  P (.inl (w32 (x4 + 1), z, c, s))
theorem T_X9_work_119  {t0 : Nat} {x2 : Option Nat} {x3 : Int} {x4 : Int} {z : Z} {c : Nat} {s : Nat} {P : (Int × Z × Nat × Nat) ⊕ ((Z × Nat × Nat)) → Prop} {post : Option Sv ⊕ String → Hp → Prop} (r_x3 : R32 x3) (r_x4 : R32 x4) (hw : Wz z)  (hl : ∀ (x4 : Int) (z : Z) (c : Nat) (s : Nat), P (.inl (x4, z, c, s)) → Wz z → R32 x4 → J mX9_work 11 c s post 44 [some (vr (some t0)), none, some (vr (x2)), some (ii (x3)), some (ii (x4)), none] [] (cz z)) (he0 : ∀ (z : Z) (c : Nat) (s : Nat), P (.inr (z, c, s)) → Wz z → J mX9_work 11 c s post 125 [some (vr (some t0)), none, none, some (ii (x3)), none, none] [] (cz z)) (H : F_X9_work_119 t0 x2 x3 x4 z c s P) : J mX9_work 11 c s (post) 119 [some (vr (some t0)), none, some (vr (x2)), some (ii (x3)), some (ii (x4)), none] [] (cz z) := by
  unfold F_X9_work_119 at H
  refine jz_iinc (dk dt_X9_work 65 rfl) rfl ?_
  refine j_goto 44 (dk dt_X9_work 66 rfl) (by decide) ?_
  exact j_el (hl _ _ _ _ H hw (r32_w _)) (And.intro rfl (And.intro rfl (And.intro rfl (And.intro rfl trivial))))
def F_X9_work_92  (t0 : Nat) (x2 : Option Nat) (x3 : Int) (x4 : Int) (s0 : Option Nat) (s1 : Int) (s2 : Option Nat) (z : Z) (c : Nat) (s : Nat) (P : (Int × Z × Nat × Nat) ⊕ ((Z × Nat × Nat)) → Prop) : Prop :=
  (∃ a_92, s0 = some a_92 ∧ zK z a_92 = 22 ∧ (0 ≤ s1 ∧ s1 < zN z a_92 ∧ ((∀ v, s2 = some v → zK z v = 9) ∧ (∀ z_92, z_92 = wO z a_92 s1 s2 → (zK z_92 t0 = 10 ∧ (∃ a_103, zO z_92 t0 5 = some a_103 ∧ zK z_92 a_103 = 16 ∧ (0 ≤ w32 (Int.tdiv x4 64) ∧ w32 (Int.tdiv x4 64) < zN z_92 a_103 ∧ (∀ z_112, z_112 = wG z_92 a_103 (w32 (Int.tdiv x4 64)) (lOr (zG z_92 a_103 (w32 (Int.tdiv x4 64))) (lShl 1 (w32 (Int.tmod x4 64)))) → F_X9_findLeads t0 x4 z_112 (fun z_116 => F_X9_work_119 t0 x2 x3 x4 z_116 c s P)))))))))
theorem T_X9_work_92  {t0 : Nat} {x2 : Option Nat} {x3 : Int} {x4 : Int} {s0 : Option Nat} {s1 : Int} {s2 : Option Nat} {z : Z} {c : Nat} {s : Nat} {P : (Int × Z × Nat × Nat) ⊕ ((Z × Nat × Nat)) → Prop} {post : Option Sv ⊕ String → Hp → Prop} (r_x3 : R32 x3) (r_x4 : R32 x4) (r_s1 : R32 s1) (hw : Wz z)  (hl : ∀ (x4 : Int) (z : Z) (c : Nat) (s : Nat), P (.inl (x4, z, c, s)) → Wz z → R32 x4 → J mX9_work 11 c s post 44 [some (vr (some t0)), none, some (vr (x2)), some (ii (x3)), some (ii (x4)), none] [] (cz z)) (he0 : ∀ (z : Z) (c : Nat) (s : Nat), P (.inr (z, c, s)) → Wz z → J mX9_work 11 c s post 125 [some (vr (some t0)), none, none, some (ii (x3)), none, none] [] (cz z)) (H : F_X9_work_92 t0 x2 x3 x4 s0 s1 s2 z c s P) : J mX9_work 11 c s (post) 92 [some (vr (some t0)), none, some (vr (x2)), some (ii (x3)), some (ii (x4)), none] [vr (s2), ii (s1), vr (s0)] (cz z) := by
  unfold F_X9_work_92 at H
  obtain ⟨a_92, e_92, k_92, H⟩ := H
  obtain ⟨p_92, q_92, H⟩ := H
  obtain ⟨v_92, H⟩ := H
  refine jz_aast (t := 8) (dk dt_X9_work 47 rfl) e_92 k_92 (by decide) (by decide) p_92 q_92 hw v_92 (fun w_92 => ?_)
  replace H := H _ rfl
  refine j_aload_n (dk dt_X9_work 48 rfl) rfl ?_
  obtain ⟨k_94, H⟩ := H
  refine jz_getO (kz := 5) (dk dt_X9_work 49 rfl) fl_X9_31 rfl rfl rfl k_94 ?_
  refine j_iload (dk dt_X9_work 50 rfl) rfl ?_
  refine j_bipush (v := Int32.ofInt 64) (dk dt_X9_work 51 rfl) (by decide) ?_
  refine jz_idiv (dk dt_X9_work 52 rfl) r_x4 (by decide) (by decide) ?_
  refine j_dup2 (dk dt_X9_work 53 rfl) rfl rfl ?_
  obtain ⟨a_103, e_103, k_103, H⟩ := H
  obtain ⟨p_103, q_103, H⟩ := H
  refine jz_lald (dk dt_X9_work 54 rfl) e_103 k_103 p_103 q_103 w_92 ?_
  refine j_lconst (v := Int64.ofInt 1) (dk dt_X9_work 55 rfl) (by decide) ?_
  refine j_iload (dk dt_X9_work 56 rfl) rfl ?_
  refine j_bipush (v := Int32.ofInt 64) (dk dt_X9_work 57 rfl) (by decide) ?_
  refine jz_irem (dk dt_X9_work 58 rfl) r_x4 (by decide) (by decide) ?_
  refine jz_lshl (dk dt_X9_work 59 rfl) ?_
  refine jz_lor (dk dt_X9_work 60 rfl) ?_
  refine jz_last (dk dt_X9_work 61 rfl) e_103 k_103 p_103 q_103 w_92 (r64_t _) (fun w_112 => ?_)
  replace H := H _ rfl
  refine j_aload_n (dk dt_X9_work 62 rfl) rfl ?_
  refine j_iload (dk dt_X9_work 63 rfl) rfl ?_
  refine jz_callV1 (dk dt_X9_work 64 rfl) vl_X9_72 rfl (T_X9_findLeads r_x4 w_112 H) k_94 rfl (by decide) (Nat.zero_le _) (Nat.zero_le _) (Nat.le_of_ble_eq_true rfl) (fun v_116 h_116 P_116 => ?_)
  obtain ⟨z_116, rfl, rfl, w_116, H⟩ := P_116
  dsimp only [rs]
  exact j_el (T_X9_work_119 r_x3 r_x4 w_116  hl he0 H) (And.intro rfl (And.intro rfl (And.intro rfl (And.intro rfl trivial))))
def L_X9_work_44  (t0 : Nat) (x2 : Option Nat) (x3 : Int) (x4 : Int) (z : Z) (c : Nat) (s : Nat) (P : (Int × Z × Nat × Nat) ⊕ ((Z × Nat × Nat)) → Prop) : Prop :=
  (if x3 ≤ x4 then P (.inr (z, c, s)) else (zK z t0 = 10 ∧ (∃ a_54, zO z t0 8 = some a_54 ∧ zK z a_54 = 7 ∧ (∃ a_59, zO z a_54 2 = some a_59 ∧ zK z a_59 = 19 ∧ (0 ≤ x4 ∧ x4 < zN z a_59 ∧ F_X11_isFormula (zO z a_59 x4) z (fun x_60 => (if x_60 = 0 then F_X9_work_119 t0 x2 x3 x4 z c s P else (∃ a_72, x2 = some a_72 ∧ zK z a_72 = 22 ∧ (0 ≤ x4 ∧ x4 < zN z a_72 ∧ (if zO z a_72 x4 = none then (1 ≤ c ∧ 4 ≤ s ∧ ∀ a_83, zK z a_83 = 0 → (∀ z_83, z_83 = nZ z a_83 9 0 → (∃ c_89 s_89, c_89 ≤ c - 1 ∧ s_89 ≤ s - 4 ∧ F_X8_init a_83 24 z_83 c_89 s_89 (fun z_89 => F_X9_work_92 t0 x2 x3 x4 x2 x4 (some a_83) z_89 ((c - 1) - c_89) ((s - 4) - s_89) P)))) else F_X9_work_92 t0 x2 x3 x4 x2 x4 (zO z a_72 x4) z c s P))))))))))
theorem U_X9_work_44  {t0 : Nat} {x2 : Option Nat} {x3 : Int} {x4 : Int} {z : Z} {c : Nat} {s : Nat} {P : (Int × Z × Nat × Nat) ⊕ ((Z × Nat × Nat)) → Prop} {post : Option Sv ⊕ String → Hp → Prop} (r_x3 : R32 x3) (r_x4 : R32 x4) (hw : Wz z)  (hl : ∀ (x4 : Int) (z : Z) (c : Nat) (s : Nat), P (.inl (x4, z, c, s)) → Wz z → R32 x4 → J mX9_work 11 c s post 44 [some (vr (some t0)), none, some (vr (x2)), some (ii (x3)), some (ii (x4)), none] [] (cz z)) (he0 : ∀ (z : Z) (c : Nat) (s : Nat), P (.inr (z, c, s)) → Wz z → J mX9_work 11 c s post 125 [some (vr (some t0)), none, none, some (ii (x3)), none, none] [] (cz z)) (H : L_X9_work_44 t0 x2 x3 x4 z c s P) : J mX9_work 11 c s post 44 [some (vr (some t0)), none, some (vr (x2)), some (ii (x3)), some (ii (x4)), none] [] (cz z) := by
  unfold L_X9_work_44 at H
  refine j_iload (dk dt_X9_work 23 rfl) rfl ?_
  refine j_iload_n (dk dt_X9_work 24 rfl) rfl ?_
  refine jz_icmp_ge 125 (dk dt_X9_work 25 rfl) (by decide) r_x4 r_x3 H (fun H => ?_) (fun H => ?_)
  · exact j_el (he0 _ _ _ H hw) (And.intro rfl (And.intro rfl trivial))
  · refine j_aload_n (dk dt_X9_work 26 rfl) rfl ?_
    obtain ⟨k_51, H⟩ := H
    refine jz_getO (kz := 8) (dk dt_X9_work 27 rfl) fl_X9_45 rfl rfl rfl k_51 ?_
    obtain ⟨a_54, e_54, k_54, H⟩ := H
    refine jz_getO (kz := 2) (dk dt_X9_work 28 rfl) fl_X9_58 rfl rfl e_54 k_54 ?_
    refine j_iload (dk dt_X9_work 29 rfl) rfl ?_
    obtain ⟨a_59, e_59, k_59, H⟩ := H
    obtain ⟨p_59, q_59, H⟩ := H
    refine jz_aald (t := 5) (dk dt_X9_work 30 rfl) e_59 k_59 (by decide) (by decide) p_59 q_59 hw ?_
    refine j_callSN1 (dk dt_X9_work 31 rfl) snl_X9_68 (T_X11_isFormula hw H) rfl (by decide) (Nat.zero_le _) (Nat.zero_le _) (Nat.le_of_ble_eq_true rfl) (fun v_60 h_60 P_60 => ?_)
    obtain ⟨x_60, rfl, r_60, rfl, H⟩ := P_60
    dsimp only [rs]
    refine jz_if_eq 119 (dk dt_X9_work 32 rfl) (by decide) r_60 H (fun H => ?_) (fun H => ?_)
    · exact j_el (T_X9_work_119 r_x3 r_x4 hw  hl he0 H) (And.intro rfl (And.intro rfl (And.intro rfl (And.intro rfl trivial))))
    · refine j_aload_n (dk dt_X9_work 33 rfl) rfl ?_
      refine j_iload (dk dt_X9_work 34 rfl) rfl ?_
      refine j_aload_n (dk dt_X9_work 35 rfl) rfl ?_
      refine j_iload (dk dt_X9_work 36 rfl) rfl ?_
      obtain ⟨a_72, e_72, k_72, H⟩ := H
      obtain ⟨p_72, q_72, H⟩ := H
      refine jz_aald (t := 8) (dk dt_X9_work 37 rfl) e_72 k_72 (by decide) (by decide) p_72 q_72 hw ?_
      refine jz_ifnull 83 (dk dt_X9_work 38 rfl) (by decide) H (fun H => ?_) (fun H => ?_)
      · obtain ⟨hc_83, hs_83, H⟩ := H
        refine jz_new (dk dt_X9_work 43 rfl) cl_8 nl_X9_9 iw_8 zw_8 rfl hc_83 hs_83 hw (fun a_83 e_83 w_83 => ?_)
        replace H := H a_83 e_83
        replace H := H _ rfl
        refine j_dup (dk dt_X9_work 44 rfl) rfl ?_
        refine j_bipush (v := Int32.ofInt 24) (dk dt_X9_work 45 rfl) (by decide) ?_
        obtain ⟨c_89, s_89, hc_89, hs_89, H⟩ := H
        refine jz_callI1 (dk dt_X9_work 46 rfl) il_X9_17 rfl (T_X8_init (by decide) w_83 H) rfl (by decide) hc_89 hs_89 (Nat.le_of_ble_eq_true rfl) (fun v_89 h_89 P_89 => ?_)
        obtain ⟨z_89, rfl, rfl, w_89, H⟩ := P_89
        dsimp only [rs]
        exact j_el (T_X9_work_92 r_x3 r_x4 r_x4 w_89  hl he0 H) (And.intro rfl (And.intro rfl (And.intro rfl (And.intro rfl trivial))))
      · refine j_aload_n (dk dt_X9_work 39 rfl) rfl ?_
        refine j_iload (dk dt_X9_work 40 rfl) rfl ?_
        refine jz_aald (t := 8) (dk dt_X9_work 41 rfl) e_72 k_72 (by decide) (by decide) p_72 q_72 hw ?_
        refine j_goto 92 (dk dt_X9_work 42 rfl) (by decide) ?_
        exact j_el (T_X9_work_92 r_x3 r_x4 r_x4 hw  hl he0 H) (And.intro rfl (And.intro rfl (And.intro rfl (And.intro rfl trivial))))
def L_X9_work_140  (t0 : Nat) (x4 : Int) (x5 : Int) (z : Z) (c : Nat) (s : Nat) (P : (Int × Z) ⊕ ((Z)) → Prop) : Prop :=
  (if x4 ≤ x5 then P (.inr z) else (zK z t0 = 10 ∧ (∃ a_154, zO z t0 7 = some a_154 ∧ zK z a_154 = 15 ∧ (0 ≤ x5 ∧ x5 < zN z a_154 ∧ F_X9_workCell t0 (zI z a_154 x5) z (fun z_155 => P (.inl (w32 (x5 + 1), z_155)))))))
theorem U_X9_work_140  {t0 : Nat} {x4 : Int} {x5 : Int} {z : Z} {c : Nat} {s : Nat} {P : (Int × Z) ⊕ ((Z)) → Prop} {post : Option Sv ⊕ String → Hp → Prop} (r_x4 : R32 x4) (r_x5 : R32 x5) (hw : Wz z)  (hl : ∀ (x5 : Int) (z : Z), P (.inl (x5, z)) → Wz z → R32 x5 → J mX9_work 11 c s post 140 [some (vr (some t0)), none, none, none, some (ii (x4)), some (ii (x5))] [] (cz z)) (he0 : ∀ (z : Z), P (.inr z) → Wz z → J mX9_work 11 c s post 164 [none, none, none, none, none, none] [] (cz z)) (H : L_X9_work_140 t0 x4 x5 z c s P) : J mX9_work 11 c s post 140 [some (vr (some t0)), none, none, none, some (ii (x4)), some (ii (x5))] [] (cz z) := by
  unfold L_X9_work_140 at H
  refine j_iload (dk dt_X9_work 76 rfl) rfl ?_
  refine j_iload (dk dt_X9_work 77 rfl) rfl ?_
  refine jz_icmp_ge 164 (dk dt_X9_work 78 rfl) (by decide) r_x5 r_x4 H (fun H => ?_) (fun H => ?_)
  · exact j_el (he0 _ H hw) trivial
  · refine j_aload_n (dk dt_X9_work 79 rfl) rfl ?_
    refine j_aload_n (dk dt_X9_work 80 rfl) rfl ?_
    obtain ⟨k_149, H⟩ := H
    refine jz_getO (kz := 7) (dk dt_X9_work 81 rfl) fl_X9_38 rfl rfl rfl k_149 ?_
    refine j_iload (dk dt_X9_work 82 rfl) rfl ?_
    obtain ⟨a_154, e_154, k_154, H⟩ := H
    obtain ⟨p_154, q_154, H⟩ := H
    refine jz_iald (dk dt_X9_work 83 rfl) e_154 k_154 p_154 q_154 hw ?_
    refine jz_callV1 (dk dt_X9_work 84 rfl) vl_X9_82 rfl (T_X9_workCell (hw.1 _ _) hw H) k_149 rfl (by decide) (Nat.zero_le _) (Nat.zero_le _) (Nat.le_of_ble_eq_true rfl) (fun v_155 h_155 P_155 => ?_)
    obtain ⟨z_155, rfl, rfl, w_155, H⟩ := P_155
    dsimp only [rs]
    refine jz_iinc (dk dt_X9_work 85 rfl) rfl ?_
    refine j_goto 140 (dk dt_X9_work 86 rfl) (by decide) ?_
    exact j_el (hl _ _ H w_155 (r32_w _)) (And.intro rfl (And.intro rfl (And.intro rfl trivial)))
def F_X9_work_140  (t0 : Nat) (x4 : Int) (x5 : Int) (z : Z) (c : Nat) (s : Nat) (P : Z → Prop) : Prop :=
  lp (S := Int × Z) (E := (Z)) (fun q P_ => L_X9_work_140 t0 x4 q.1 q.2 c s P_) (x5, z) (fun (z : Z) => P z)
theorem T_X9_work_140  {t0 : Nat} {x4 : Int} {x5 : Int} {z : Z} {c : Nat} {s : Nat} {P : Z → Prop} (r_x4 : R32 x4) (r_x5 : R32 x5) (hw : Wz z)   (H : F_X9_work_140 t0 x4 x5 z c s P) : J mX9_work 11 c s (nx (QZV P)) 140 [some (vr (some t0)), none, none, none, some (ii (x4)), some (ii (x5))] [] (cz z) := by
  unfold F_X9_work_140 at H
  refine lp_J (G := fun q => Wz (q.2) → R32 (q.1) → J mX9_work 11 c s (nx (QZV P)) 140 [some (vr (some t0)), none, none, none, some (ii (x4)), some (ii ((q.1)))] [] (cz (q.2))) (fun q P_ hl_ he_ Hb => ?_) (x5, z) H hw r_x5
  obtain ⟨x5, z⟩ := q
  intro hw r_x5
  refine U_X9_work_140 (P := P_) r_x4 r_x5 hw  (fun x5 z Hp hw r_x5 => hl_ (x5, z) Hp hw r_x5) ?_ Hb
  · intro z Hp hw
    have H := he_ _ Hp
    exact j_return (dk dt_X9_work 87 rfl) rfl ⟨_, rfl, rfl, hw, H⟩
def F_X9_work_44  (t0 : Nat) (x2 : Option Nat) (x3 : Int) (x4 : Int) (z : Z) (c : Nat) (s : Nat) (P : Z → Prop) : Prop :=
  lp (S := Int × Z × Nat × Nat) (E := (Z × Nat × Nat)) (fun q P_ => L_X9_work_44 t0 x2 x3 q.1 q.2.1 q.2.2.1 q.2.2.2 P_) (x4, z, c, s) (fun e => match e with | (z, c, s) => (zK z t0 = 10 ∧ F_X9_settleCircles t0 x3 z (fun z_127 => (zK z_127 t0 = 10 ∧ F_X9_putInOrder t0 x3 z_127 (fun x_132 z_132 => F_X9_work_140 t0 x_132 0 z_132 c s P)))))
theorem T_X9_work_44  {t0 : Nat} {x2 : Option Nat} {x3 : Int} {x4 : Int} {z : Z} {c : Nat} {s : Nat} {P : Z → Prop} (r_x3 : R32 x3) (r_x4 : R32 x4) (hw : Wz z)   (H : F_X9_work_44 t0 x2 x3 x4 z c s P) : J mX9_work 11 c s (nx (QZV P)) 44 [some (vr (some t0)), none, some (vr (x2)), some (ii (x3)), some (ii (x4)), none] [] (cz z) := by
  unfold F_X9_work_44 at H
  refine lp_J (G := fun q => Wz (q.2.1) → R32 (q.1) → J mX9_work 11 (q.2.2.1) (q.2.2.2) (nx (QZV P)) 44 [some (vr (some t0)), none, some (vr (x2)), some (ii (x3)), some (ii ((q.1))), none] [] (cz (q.2.1))) (fun q P_ hl_ he_ Hb => ?_) (x4, z, c, s) H hw r_x4
  obtain ⟨x4, z, c, s⟩ := q
  intro hw r_x4
  refine U_X9_work_44 (P := P_) r_x3 r_x4 hw  (fun x4 z c s Hp hw r_x4 => hl_ (x4, z, c, s) Hp hw r_x4) ?_ Hb
  · intro z c s Hp hw
    have H := he_ _ Hp
    refine j_aload_n (dk dt_X9_work 67 rfl) rfl ?_
    refine j_iload_n (dk dt_X9_work 68 rfl) rfl ?_
    obtain ⟨k_127, H⟩ := H
    refine jz_callV1 (dk dt_X9_work 69 rfl) vl_X9_75 rfl (T_X9_settleCircles r_x3 hw H) k_127 rfl (by decide) (Nat.zero_le _) (Nat.zero_le _) (Nat.le_of_ble_eq_true rfl) (fun v_127 h_127 P_127 => ?_)
    obtain ⟨z_127, rfl, rfl, w_127, H⟩ := P_127
    dsimp only [rs]
    refine j_aload_n (dk dt_X9_work 70 rfl) rfl ?_
    refine j_iload_n (dk dt_X9_work 71 rfl) rfl ?_
    obtain ⟨k_132, H⟩ := H
    refine jz_callV1 (dk dt_X9_work 72 rfl) vl_X9_78 rfl (T_X9_putInOrder r_x3 w_127 H) k_132 rfl (by decide) (Nat.zero_le _) (Nat.zero_le _) (Nat.le_of_ble_eq_true rfl) (fun v_132 h_132 P_132 => ?_)
    obtain ⟨x_132, z_132, rfl, r_132, rfl, w_132, H⟩ := P_132
    dsimp only [rs]
    refine j_istore (dk dt_X9_work 73 rfl) (by decide) ?_
    refine j_iconst (v := Int32.ofInt 0) (dk dt_X9_work 74 rfl) (by decide) ?_
    refine j_istore (dk dt_X9_work 75 rfl) (by decide) ?_
    exact j_el (T_X9_work_140 r_132 (by decide) w_132   H) (And.intro rfl (And.intro rfl (And.intro rfl trivial)))
def F_X9_work  (t0 : Nat) (x1 : Option Nat) (x2 : Option Nat) (z : Z) (c : Nat) (s : Nat) (P : Z → Prop) : Prop :=
  (zK z t0 = 10 ∧ (∀ z_2, z_2 = wO z t0 8 x1 → (∃ a_10, zO z_2 t0 8 = some a_10 ∧ zK z_2 a_10 = 7 ∧ (∀ z_10, z_10 = wO z_2 a_10 3 x2 → F_X9_clear (zO z_10 t0 5) 0 z_10 (fun z_18 => (zK z_18 t0 = 10 ∧ (∃ a_25, zO z_18 t0 8 = some a_25 ∧ zK z_18 a_25 = 7 ∧ (∃ a_28, zO z_18 a_25 2 = some a_28 ∧ zK z_18 a_28 = 19 ∧ (∃ a_30, x2 = some a_30 ∧ zK z_18 a_30 = 22 ∧ F_X9_work_44 t0 x2 (min (min (zN z_18 a_28) (zN z_18 a_30)) 320) 0 z_18 c s P)))))))))
theorem T_X9_work  {t0 : Nat} {x1 : Option Nat} {x2 : Option Nat} {z : Z} {c : Nat} {s : Nat} {P : Z → Prop}  (hw : Wz z)  (H : F_X9_work t0 x1 x2 z c s P) : Con mX9_work 11 c s [vr (some t0), vr (x1), vr (x2)] (cz z) (QZV P) := by
  refine con_of rfl (Nat.le_of_ble_eq_true rfl) (by decide) ?_
  show J mX9_work 11 c s _ 0 [some (vr (some t0)), some (vr (x1)), some (vr (x2)), none, none, none] [] (cz z)
  unfold F_X9_work at H
  refine j_aload_n (dk dt_X9_work 0 rfl) rfl ?_
  refine j_aload_n (dk dt_X9_work 1 rfl) rfl ?_
  obtain ⟨k_2, H⟩ := H
  refine jz_putO (kz := 8) (dk dt_X9_work 2 rfl) fl_X9_45 rfl rfl rfl k_2 hw (fun w_2 => ?_)
  replace H := H _ rfl
  refine j_aload_n (dk dt_X9_work 3 rfl) rfl ?_
  refine jz_getO (kz := 8) (dk dt_X9_work 4 rfl) fl_X9_45 rfl rfl rfl k_2 ?_
  refine j_aload_n (dk dt_X9_work 5 rfl) rfl ?_
  obtain ⟨a_10, e_10, k_10, H⟩ := H
  refine jz_putO (kz := 3) (dk dt_X9_work 6 rfl) fl_X9_49 rfl rfl e_10 k_10 w_2 (fun w_10 => ?_)
  replace H := H _ rfl
  refine j_aload_n (dk dt_X9_work 7 rfl) rfl ?_
  refine jz_getO (kz := 5) (dk dt_X9_work 8 rfl) fl_X9_31 rfl rfl rfl k_2 ?_
  refine j_iconst (v := Int32.ofInt 0) (dk dt_X9_work 9 rfl) (by decide) ?_
  refine j_callS2 (dk dt_X9_work 10 rfl) sl_X9_54 (T_X9_clear (by decide) w_10 H) rfl (by decide) (Nat.zero_le _) (Nat.zero_le _) (Nat.le_of_ble_eq_true rfl) (fun v_18 h_18 P_18 => ?_)
  obtain ⟨z_18, rfl, rfl, w_18, H⟩ := P_18
  dsimp only [rs]
  refine j_aload_n (dk dt_X9_work 11 rfl) rfl ?_
  obtain ⟨k_22, H⟩ := H
  refine jz_getO (kz := 8) (dk dt_X9_work 12 rfl) fl_X9_45 rfl rfl rfl k_22 ?_
  obtain ⟨a_25, e_25, k_25, H⟩ := H
  refine jz_getO (kz := 2) (dk dt_X9_work 13 rfl) fl_X9_58 rfl rfl e_25 k_25 ?_
  obtain ⟨a_28, e_28, k_28, H⟩ := H
  refine jz_alen (t := 5) (dk dt_X9_work 14 rfl) e_28 k_28 (by decide) w_18 ?_
  refine j_aload_n (dk dt_X9_work 15 rfl) rfl ?_
  obtain ⟨a_30, e_30, k_30, H⟩ := H
  refine jz_alen (t := 8) (dk dt_X9_work 16 rfl) e_30 k_30 (by decide) w_18 ?_
  refine jz_mmin (dk dt_X9_work 17 rfl) sl_X9_62 (by decide) (Nat.le_of_ble_eq_true rfl) (r32_len w_18 _) (r32_len w_18 _) ?_
  refine j_sipush (v := Int32.ofInt 320) (dk dt_X9_work 18 rfl) (by decide) ?_
  refine jz_mmin (dk dt_X9_work 19 rfl) sl_X9_62 (by decide) (Nat.le_of_ble_eq_true rfl) (r32_min (r32_len w_18 _) (r32_len w_18 _)) (by decide) ?_
  refine j_istore_n (dk dt_X9_work 20 rfl) (by decide) ?_
  refine j_iconst (v := Int32.ofInt 0) (dk dt_X9_work 21 rfl) (by decide) ?_
  refine j_istore (dk dt_X9_work 22 rfl) (by decide) ?_
  exact j_el (T_X9_work_44 (r32_min (r32_min (r32_len w_18 _) (r32_len w_18 _)) (by decide)) (by decide) w_18   H) (And.intro rfl (And.intro rfl (And.intro rfl (And.intro rfl trivial))))
