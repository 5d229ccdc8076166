def F_X10_place_61  (t0 : Nat) (z : Z) (P : Z → Prop) : Prop :=
  (zK z t0 = 11 ∧ F_X10_putReference t0 z (fun z_62 => P z_62))
theorem T_X10_place_61  {t0 : Nat} {z : Z} {P : Z → Prop}  (hw : Wz z)   (H : F_X10_place_61 t0 z P) : J mX10_place 9 0 0 (nx (QZV P)) 61 [some (vr (some t0)), none, none] [] (cz z) := by
  unfold F_X10_place_61 at H
  refine j_aload_n (dk dt_X10_place 29 rfl) rfl ?_
  obtain ⟨k_62, H⟩ := H
  refine jz_callV0 (dk dt_X10_place 30 rfl) vl_X10_102 rfl (T_X10_putReference hw H) k_62 rfl (by decide) (Nat.zero_le _) (Nat.zero_le _) (Nat.le_of_ble_eq_true rfl) (fun v_62 h_62 P_62 => ?_)
  obtain ⟨z_62, rfl, rfl, w_62, H⟩ := P_62
  dsimp only [rs]
  exact j_return (dk dt_X10_place 31 rfl) rfl ⟨_, rfl, rfl, w_62, H⟩
def F_X10_place_157  (z : Z) (P : Z → Prop) : Prop :=
  P z
theorem T_X10_place_157  {z : Z} {P : Z → Prop}  (hw : Wz z)   (H : F_X10_place_157 z P) : J mX10_place 9 0 0 (nx (QZV P)) 157 [none, none, none] [] (cz z) := by
  unfold F_X10_place_157 at H
  exact j_return (dk dt_X10_place 80 rfl) rfl ⟨_, rfl, rfl, hw, H⟩
def F_X10_place_135  (t0 : Nat) (x1 : Option Nat) (z : Z) (P : Z → Prop) : Prop :=
  (∃ a_136, x1 = some a_136 ∧ zK z a_136 = 5 ∧ (if zI z a_136 8 = (-1) then F_X10_place_157 z P else (zK z t0 = 11 ∧ F_X10_put t0 64 z (fun z_146 => (∃ a_151, x1 = some a_151 ∧ zK z_146 a_151 = 5 ∧ (zK z_146 t0 = 11 ∧ F_X10_putNumber t0 (zI z_146 a_151 8) z_146 (fun z_154 => F_X10_place_157 z_154 P)))))))
theorem T_X10_place_135  {t0 : Nat} {x1 : Option Nat} {z : Z} {P : Z → Prop}  (hw : Wz z)   (H : F_X10_place_135 t0 x1 z P) : J mX10_place 9 0 0 (nx (QZV P)) 135 [some (vr (some t0)), some (vr (x1)), none] [] (cz z) := by
  unfold F_X10_place_135 at H
  refine j_aload_n (dk dt_X10_place 69 rfl) rfl ?_
  obtain ⟨a_136, e_136, k_136, H⟩ := H
  refine jz_getI (kz := 8) (dk dt_X10_place 70 rfl) fl_X10_143 rfl rfl e_136 k_136 ?_
  refine j_iconst (v := Int32.ofInt (-1)) (dk dt_X10_place 71 rfl) (by decide) ?_
  refine jz_icmp_eq 157 (dk dt_X10_place 72 rfl) (by decide) (hw.1 _ _) (by decide) H (fun H => ?_) (fun H => ?_)
  · exact j_el (T_X10_place_157  hw   H) trivial
  · refine j_aload_n (dk dt_X10_place 73 rfl) rfl ?_
    refine j_bipush (v := Int32.ofInt 64) (dk dt_X10_place 74 rfl) (by decide) ?_
    obtain ⟨k_146, H⟩ := H
    refine jz_callV1 (dk dt_X10_place 75 rfl) vl_X10_53 rfl (T_X10_put (by decide) hw H) k_146 rfl (by decide) (Nat.zero_le _) (Nat.zero_le _) (Nat.le_of_ble_eq_true rfl) (fun v_146 h_146 P_146 => ?_)
    obtain ⟨z_146, rfl, rfl, w_146, H⟩ := P_146
    dsimp only [rs]
    refine j_aload_n (dk dt_X10_place 76 rfl) rfl ?_
    refine j_aload_n (dk dt_X10_place 77 rfl) rfl ?_
    obtain ⟨a_151, e_151, k_151, H⟩ := H
    refine jz_getI (kz := 8) (dk dt_X10_place 78 rfl) fl_X10_143 rfl rfl e_151 k_151 ?_
    obtain ⟨k_154, H⟩ := H
    refine jz_callV1 (dk dt_X10_place 79 rfl) vl_X10_180 rfl (T_X10_putNumber (w_146.1 _ _) w_146 H) k_154 rfl (by decide) (Nat.zero_le _) (Nat.zero_le _) (Nat.le_of_ble_eq_true rfl) (fun v_154 h_154 P_154 => ?_)
    obtain ⟨z_154, rfl, rfl, w_154, H⟩ := P_154
    dsimp only [rs]
    exact j_el (T_X10_place_157  w_154   H) trivial
def F_X10_place_26  (t0 : Nat) (x1 : Option Nat) (s0 : Option Nat) (z : Z) (P : Z → Prop) : Prop :=
  (if s0 = none then F_X10_place_61 t0 z P else (∃ a_33, x1 = some a_33 ∧ zK z a_33 = 5 ∧ (∃ a_40, s0 = some a_40 ∧ zK z a_40 = 7 ∧ F_X6_knows a_40 (zI z a_33 3) (zI z a_33 4) z (fun x_40 => (if x_40 = 0 then F_X10_place_61 t0 z P else F_X6_knows a_40 (zI z a_33 5) (zI z a_33 6) z (fun x_55 => (if x_55 = 0 then F_X10_place_61 t0 z P else F_X6_placeOf a_40 0 (zI z a_33 3) z (fun x_73 => F_X6_placeOf a_40 1 (zI z a_33 4) z (fun x_82 => (zK z t0 = 11 ∧ F_X10_corner t0 x_73 x_82 (zI z a_33 7) z (fun z_89 => (∃ a_93, x1 = some a_93 ∧ zK z_89 a_93 = 5 ∧ (if zI z_89 a_93 0 = 17 then (zK z_89 t0 = 11 ∧ F_X10_put t0 58 z_89 (fun z_104 => (∃ a_111, x1 = some a_111 ∧ zK z_104 a_111 = 5 ∧ (∃ a_114, s0 = some a_114 ∧ zK z_104 a_114 = 7 ∧ F_X6_placeOf a_114 0 (zI z_104 a_111 5) z_104 (fun x_114 => F_X6_placeOf a_114 1 (zI z_104 a_111 6) z_104 (fun x_123 => (zK z_104 t0 = 11 ∧ F_X10_corner t0 x_114 x_123 (bShr (zI z_104 a_111 7) 2) z_104 (fun z_132 => F_X10_place_135 t0 x1 z_132 P)))))))) else F_X10_place_135 t0 x1 z_89 P)))))))))))))
theorem T_X10_place_26  {t0 : Nat} {x1 : Option Nat} {s0 : Option Nat} {z : Z} {P : Z → Prop}  (hw : Wz z)   (H : F_X10_place_26 t0 x1 s0 z P) : J mX10_place 9 0 0 (nx (QZV P)) 26 [some (vr (some t0)), some (vr (x1)), none] [vr (s0)] (cz z) := by
  unfold F_X10_place_26 at H
  refine j_astore_n (dk dt_X10_place 12 rfl) (by decide) ?_
  refine j_aload_n (dk dt_X10_place 13 rfl) rfl ?_
  refine jz_ifnull 61 (dk dt_X10_place 14 rfl) (by decide) H (fun H => ?_) (fun H => ?_)
  · exact j_el (T_X10_place_61  hw   H) (And.intro rfl trivial)
  · refine j_aload_n (dk dt_X10_place 15 rfl) rfl ?_
    refine j_aload_n (dk dt_X10_place 16 rfl) rfl ?_
    obtain ⟨a_33, e_33, k_33, H⟩ := H
    refine jz_getI (kz := 3) (dk dt_X10_place 17 rfl) fl_X10_152 rfl rfl e_33 k_33 ?_
    refine j_aload_n (dk dt_X10_place 18 rfl) rfl ?_
    refine jz_getI (kz := 4) (dk dt_X10_place 19 rfl) fl_X10_155 rfl rfl e_33 k_33 ?_
    obtain ⟨a_40, e_40, k_40, H⟩ := H
    refine jz_callV2 (dk dt_X10_place 20 rfl) vl_X10_158 e_40 (T_X6_knows (hw.1 _ _) (hw.1 _ _) hw H) k_40 rfl (by decide) (Nat.zero_le _) (Nat.zero_le _) (Nat.le_of_ble_eq_true rfl) (fun v_40 h_40 P_40 => ?_)
    obtain ⟨x_40, rfl, r_40, rfl, H⟩ := P_40
    dsimp only [rs]
    refine jz_if_eq 61 (dk dt_X10_place 21 rfl) (by decide) r_40 H (fun H => ?_) (fun H => ?_)
    · exact j_el (T_X10_place_61  hw   H) (And.intro rfl trivial)
    · refine j_aload_n (dk dt_X10_place 22 rfl) rfl ?_
      refine j_aload_n (dk dt_X10_place 23 rfl) rfl ?_
      refine jz_getI (kz := 5) (dk dt_X10_place 24 rfl) fl_X10_164 rfl rfl e_33 k_33 ?_
      refine j_aload_n (dk dt_X10_place 25 rfl) rfl ?_
      refine jz_getI (kz := 6) (dk dt_X10_place 26 rfl) fl_X10_167 rfl rfl e_33 k_33 ?_
      refine jz_callV2 (dk dt_X10_place 27 rfl) vl_X10_158 e_40 (T_X6_knows (hw.1 _ _) (hw.1 _ _) hw H) k_40 rfl (by decide) (Nat.zero_le _) (Nat.zero_le _) (Nat.le_of_ble_eq_true rfl) (fun v_55 h_55 P_55 => ?_)
      obtain ⟨x_55, rfl, r_55, rfl, H⟩ := P_55
      dsimp only [rs]
      refine jz_if_ne 66 (dk dt_X10_place 28 rfl) (by decide) r_55 H (fun H => ?_) (fun H => ?_)
      · exact j_el (T_X10_place_61  hw   H) (And.intro rfl trivial)
      · refine j_aload_n (dk dt_X10_place 32 rfl) rfl ?_
        refine j_aload_n (dk dt_X10_place 33 rfl) rfl ?_
        refine j_iconst (v := Int32.ofInt 0) (dk dt_X10_place 34 rfl) (by decide) ?_
        refine j_aload_n (dk dt_X10_place 35 rfl) rfl ?_
        refine jz_getI (kz := 3) (dk dt_X10_place 36 rfl) fl_X10_152 rfl rfl e_33 k_33 ?_
        refine jz_callV2 (dk dt_X10_place 37 rfl) vl_X10_170 e_40 (T_X6_placeOf (by decide) (hw.1 _ _) hw H) k_40 rfl (by decide) (Nat.zero_le _) (Nat.zero_le _) (Nat.le_of_ble_eq_true rfl) (fun v_73 h_73 P_73 => ?_)
        obtain ⟨x_73, rfl, r_73, rfl, H⟩ := P_73
        dsimp only [rs]
        refine j_aload_n (dk dt_X10_place 38 rfl) rfl ?_
        refine j_iconst (v := Int32.ofInt 1) (dk dt_X10_place 39 rfl) (by decide) ?_
        refine j_aload_n (dk dt_X10_place 40 rfl) rfl ?_
        refine jz_getI (kz := 4) (dk dt_X10_place 41 rfl) fl_X10_155 rfl rfl e_33 k_33 ?_
        refine jz_callV2 (dk dt_X10_place 42 rfl) vl_X10_170 e_40 (T_X6_placeOf (by decide) (hw.1 _ _) hw H) k_40 rfl (by decide) (Nat.zero_le _) (Nat.zero_le _) (Nat.le_of_ble_eq_true rfl) (fun v_82 h_82 P_82 => ?_)
        obtain ⟨x_82, rfl, r_82, rfl, H⟩ := P_82
        dsimp only [rs]
        refine j_aload_n (dk dt_X10_place 43 rfl) rfl ?_
        refine jz_getI (kz := 7) (dk dt_X10_place 44 rfl) fl_X10_174 rfl rfl e_33 k_33 ?_
        obtain ⟨k_89, H⟩ := H
        refine jz_callV3 (dk dt_X10_place 45 rfl) vl_X10_177 rfl (T_X10_corner r_73 r_82 (hw.1 _ _) hw H) k_89 rfl (by decide) (Nat.zero_le _) (Nat.zero_le _) (Nat.le_of_ble_eq_true rfl) (fun v_89 h_89 P_89 => ?_)
        obtain ⟨z_89, rfl, rfl, w_89, H⟩ := P_89
        dsimp only [rs]
        refine j_aload_n (dk dt_X10_place 46 rfl) rfl ?_
        obtain ⟨a_93, e_93, k_93, H⟩ := H
        refine jz_getI (kz := 0) (dk dt_X10_place 47 rfl) fl_X10_96 rfl rfl e_93 k_93 ?_
        refine j_bipush (v := Int32.ofInt 17) (dk dt_X10_place 48 rfl) (by decide) ?_
        refine jz_icmp_ne 135 (dk dt_X10_place 49 rfl) (by decide) (w_89.1 _ _) (by decide) H (fun H => ?_) (fun H => ?_)
        · refine j_aload_n (dk dt_X10_place 50 rfl) rfl ?_
          refine j_bipush (v := Int32.ofInt 58) (dk dt_X10_place 51 rfl) (by decide) ?_
          obtain ⟨k_104, H⟩ := H
          refine jz_callV1 (dk dt_X10_place 52 rfl) vl_X10_53 rfl (T_X10_put (by decide) w_89 H) k_104 rfl (by decide) (Nat.zero_le _) (Nat.zero_le _) (Nat.le_of_ble_eq_true rfl) (fun v_104 h_104 P_104 => ?_)
          obtain ⟨z_104, rfl, rfl, w_104, H⟩ := P_104
          dsimp only [rs]
          refine j_aload_n (dk dt_X10_place 53 rfl) rfl ?_
          refine j_aload_n (dk dt_X10_place 54 rfl) rfl ?_
          refine j_iconst (v := Int32.ofInt 0) (dk dt_X10_place 55 rfl) (by decide) ?_
          refine j_aload_n (dk dt_X10_place 56 rfl) rfl ?_
          obtain ⟨a_111, e_111, k_111, H⟩ := H
          refine jz_getI (kz := 5) (dk dt_X10_place 57 rfl) fl_X10_164 rfl rfl e_111 k_111 ?_
          obtain ⟨a_114, e_114, k_114, H⟩ := H
          refine jz_callV2 (dk dt_X10_place 58 rfl) vl_X10_170 e_114 (T_X6_placeOf (by decide) (w_104.1 _ _) w_104 H) k_114 rfl (by decide) (Nat.zero_le _) (Nat.zero_le _) (Nat.le_of_ble_eq_true rfl) (fun v_114 h_114 P_114 => ?_)
          obtain ⟨x_114, rfl, r_114, rfl, H⟩ := P_114
          dsimp only [rs]
          refine j_aload_n (dk dt_X10_place 59 rfl) rfl ?_
          refine j_iconst (v := Int32.ofInt 1) (dk dt_X10_place 60 rfl) (by decide) ?_
          refine j_aload_n (dk dt_X10_place 61 rfl) rfl ?_
          refine jz_getI (kz := 6) (dk dt_X10_place 62 rfl) fl_X10_167 rfl rfl e_111 k_111 ?_
          refine jz_callV2 (dk dt_X10_place 63 rfl) vl_X10_170 e_114 (T_X6_placeOf (by decide) (w_104.1 _ _) w_104 H) k_114 rfl (by decide) (Nat.zero_le _) (Nat.zero_le _) (Nat.le_of_ble_eq_true rfl) (fun v_123 h_123 P_123 => ?_)
          obtain ⟨x_123, rfl, r_123, rfl, H⟩ := P_123
          dsimp only [rs]
          refine j_aload_n (dk dt_X10_place 64 rfl) rfl ?_
          refine jz_getI (kz := 7) (dk dt_X10_place 65 rfl) fl_X10_174 rfl rfl e_111 k_111 ?_
          refine j_iconst (v := Int32.ofInt 2) (dk dt_X10_place 66 rfl) (by decide) ?_
          refine jz_ishr (dk dt_X10_place 67 rfl) ?_
          obtain ⟨k_132, H⟩ := H
          refine jz_callV3 (dk dt_X10_place 68 rfl) vl_X10_177 rfl (T_X10_corner r_114 r_123 (r32_t _) w_104 H) k_132 rfl (by decide) (Nat.zero_le _) (Nat.zero_le _) (Nat.le_of_ble_eq_true rfl) (fun v_132 h_132 P_132 => ?_)
          obtain ⟨z_132, rfl, rfl, w_132, H⟩ := P_132
          dsimp only [rs]
          exact j_el (T_X10_place_135  w_132   H) (And.intro rfl (And.intro rfl trivial))
        · exact j_el (T_X10_place_135  w_89   H) (And.intro rfl (And.intro rfl trivial))
def F_X10_place  (t0 : Nat) (x1 : Option Nat) (z : Z) (P : Z → Prop) : Prop :=
  (∃ a_1, x1 = some a_1 ∧ zK z a_1 = 5 ∧ (if zI z a_1 8 = (-1) then (zK z t0 = 11 ∧ F_X10_place_26 t0 x1 (zO z t0 5) z P) else (zK z t0 = 11 ∧ (∃ a_23, zO z t0 6 = some a_23 ∧ zK z a_23 = 3 ∧ F_X2_at a_23 (zI z a_1 8) z (fun x_23 => F_X10_place_26 t0 x1 x_23 z P)))))
theorem T_X10_place  {t0 : Nat} {x1 : Option Nat} {z : Z} {P : Z → Prop}  (hw : Wz z)  (H : F_X10_place t0 x1 z P) : Con mX10_place 9 0 0 [vr (some t0), vr (x1)] (cz z) (QZV P) := by
  refine con_of rfl (Nat.le_of_ble_eq_true rfl) (by decide) ?_
  show J mX10_place 9 0 0 _ 0 [some (vr (some t0)), some (vr (x1)), none] [] (cz z)
  unfold F_X10_place at H
  refine j_aload_n (dk dt_X10_place 0 rfl) rfl ?_
  obtain ⟨a_1, e_1, k_1, H⟩ := H
  refine jz_getI (kz := 8) (dk dt_X10_place 1 rfl) fl_X10_143 rfl rfl e_1 k_1 ?_
  refine j_iconst (v := Int32.ofInt (-1)) (dk dt_X10_place 2 rfl) (by decide) ?_
  refine jz_icmp_ne 15 (dk dt_X10_place 3 rfl) (by decide) (hw.1 _ _) (by decide) H (fun H => ?_) (fun H => ?_)
  · refine j_aload_n (dk dt_X10_place 4 rfl) rfl ?_
    obtain ⟨k_9, H⟩ := H
    refine jz_getO (kz := 5) (dk dt_X10_place 5 rfl) fl_X10_32 rfl rfl rfl k_9 ?_
    refine j_goto 26 (dk dt_X10_place 6 rfl) (by decide) ?_
    exact j_el (T_X10_place_26  hw   H) (And.intro rfl (And.intro rfl trivial))
  · refine j_aload_n (dk dt_X10_place 7 rfl) rfl ?_
    obtain ⟨k_16, H⟩ := H
    refine jz_getO (kz := 6) (dk dt_X10_place 8 rfl) fl_X10_36 rfl rfl rfl k_16 ?_
    refine j_aload_n (dk dt_X10_place 9 rfl) rfl ?_
    refine jz_getI (kz := 8) (dk dt_X10_place 10 rfl) fl_X10_143 rfl rfl e_1 k_1 ?_
    obtain ⟨a_23, e_23, k_23, H⟩ := H
    refine jz_callV1 (dk dt_X10_place 11 rfl) vl_X10_146 e_23 (T_X2_at (hw.1 _ _) hw H) k_23 rfl (by decide) (Nat.zero_le _) (Nat.zero_le _) (Nat.le_of_ble_eq_true rfl) (fun v_23 h_23 P_23 => ?_)
    obtain ⟨x_23, rfl, rfl, H⟩ := P_23
    dsimp only [rs]
    exact j_el (T_X10_place_26  hw   H) (And.intro rfl (And.intro rfl trivial))
def F_X11_bindsOf_46  (s0 : Int) (P : Int → Prop) : Prop :=
  P s0
theorem T_X11_bindsOf_46  {s0 : Int} {P : Int → Prop} {h : Hp} (r_s0 : R32 s0)    (H : F_X11_bindsOf_46 s0 P) : J mX11_bindsOf 1 0 0 (nx (QPI h P)) 46 [none] [ii (s0)] h := by
  unfold F_X11_bindsOf_46 at H
  exact j_ireturn (dk dt_X11_bindsOf 26 rfl) rfl rfl ⟨_, rfl, r_s0, rfl, H⟩
def F_X11_bindsOf_25  (s0 : Int) (P : Int → Prop) : Prop :=
  P s0
theorem T_X11_bindsOf_25  {s0 : Int} {P : Int → Prop} {h : Hp} (r_s0 : R32 s0)    (H : F_X11_bindsOf_25 s0 P) : J mX11_bindsOf 1 0 0 (nx (QPI h P)) 25 [none] [ii (s0)] h := by
  unfold F_X11_bindsOf_25 at H
  exact j_ireturn (dk dt_X11_bindsOf 14 rfl) rfl rfl ⟨_, rfl, r_s0, rfl, H⟩
def F_X11_bindsOf  (x0 : Int) (P : Int → Prop) : Prop :=
  (if 6 < x0 then (if 9 < x0 then (if 12 < x0 then (if x0 = 13 then F_X11_bindsOf_46 5 P else F_X11_bindsOf_46 6 P) else P 4) else (if x0 = 7 then F_X11_bindsOf_25 2 P else F_X11_bindsOf_25 3 P)) else P 1)
theorem T_X11_bindsOf  {x0 : Int} {P : Int → Prop} {h : Hp} (r_x0 : R32 x0)   (H : F_X11_bindsOf x0 P) : Con mX11_bindsOf 1 0 0 [ii (x0)] h (QPI h P) := by
  refine con_of rfl (Nat.le_of_ble_eq_true rfl) (by decide) ?_
  show J mX11_bindsOf 1 0 0 _ 0 [some (ii (x0))] [] h
  unfold F_X11_bindsOf at H
  refine j_iload_n (dk dt_X11_bindsOf 0 rfl) rfl ?_
  refine j_bipush (v := Int32.ofInt 6) (dk dt_X11_bindsOf 1 rfl) (by decide) ?_
  refine jz_icmp_gt 8 (dk dt_X11_bindsOf 2 rfl) (by decide) r_x0 (by decide) H (fun H => ?_) (fun H => ?_)
  · refine j_iload_n (dk dt_X11_bindsOf 5 rfl) rfl ?_
    refine j_bipush (v := Int32.ofInt 9) (dk dt_X11_bindsOf 6 rfl) (by decide) ?_
    refine jz_icmp_gt 26 (dk dt_X11_bindsOf 7 rfl) (by decide) r_x0 (by decide) H (fun H => ?_) (fun H => ?_)
    · refine j_iload_n (dk dt_X11_bindsOf 15 rfl) rfl ?_
      refine j_bipush (v := Int32.ofInt 12) (dk dt_X11_bindsOf 16 rfl) (by decide) ?_
      refine jz_icmp_gt 34 (dk dt_X11_bindsOf 17 rfl) (by decide) r_x0 (by decide) H (fun H => ?_) (fun H => ?_)
      · refine j_iload_n (dk dt_X11_bindsOf 20 rfl) rfl ?_
        refine j_bipush (v := Int32.ofInt 13) (dk dt_X11_bindsOf 21 rfl) (by decide) ?_
        refine jz_icmp_ne 44 (dk dt_X11_bindsOf 22 rfl) (by decide) r_x0 (by decide) H (fun H => ?_) (fun H => ?_)
        · refine j_iconst (v := Int32.ofInt 5) (dk dt_X11_bindsOf 23 rfl) (by decide) ?_
          refine j_goto 46 (dk dt_X11_bindsOf 24 rfl) (by decide) ?_
          exact j_el (T_X11_bindsOf_46 (by decide)    H) trivial
        · refine j_bipush (v := Int32.ofInt 6) (dk dt_X11_bindsOf 25 rfl) (by decide) ?_
          exact j_el (T_X11_bindsOf_46 (by decide)    H) trivial
      · refine j_iconst (v := Int32.ofInt 4) (dk dt_X11_bindsOf 18 rfl) (by decide) ?_
        exact j_ireturn (dk dt_X11_bindsOf 19 rfl) rfl rfl ⟨_, rfl, (by decide), rfl, H⟩
    · refine j_iload_n (dk dt_X11_bindsOf 8 rfl) rfl ?_
      refine j_bipush (v := Int32.ofInt 7) (dk dt_X11_bindsOf 9 rfl) (by decide) ?_
      refine jz_icmp_ne 24 (dk dt_X11_bindsOf 10 rfl) (by decide) r_x0 (by decide) H (fun H => ?_) (fun H => ?_)
      · refine j_iconst (v := Int32.ofInt 2) (dk dt_X11_bindsOf 11 rfl) (by decide) ?_
        refine j_goto 25 (dk dt_X11_bindsOf 12 rfl) (by decide) ?_
        exact j_el (T_X11_bindsOf_25 (by decide)    H) trivial
      · refine j_iconst (v := Int32.ofInt 3) (dk dt_X11_bindsOf 13 rfl) (by decide) ?_
        exact j_el (T_X11_bindsOf_25 (by decide)    H) trivial
  · refine j_iconst (v := Int32.ofInt 1) (dk dt_X11_bindsOf 3 rfl) (by decide) ?_
    exact j_ireturn (dk dt_X11_bindsOf 4 rfl) rfl rfl ⟨_, rfl, (by decide), rfl, H⟩
def F_X4_isPlace_23  (s0 : Int) (z : Z) (P : Int → Prop) : Prop :=
  (Z1 s0 ∧ P s0)
theorem T_X4_isPlace_23  {s0 : Int} {z : Z} {P : Int → Prop} (r_s0 : R32 s0) (hw : Wz z)   (H : F_X4_isPlace_23 s0 z P) : J mX4_isPlace 1 0 0 (nx (QPI (cz z) P)) 23 [none] [ii (s0)] (cz z) := by
  unfold F_X4_isPlace_23 at H
  obtain ⟨hz_, H⟩ := H
  exact j_ireturn (dk dt_X4_isPlace 11 rfl) rfl (nar_z hz_) ⟨_, rfl, r_s0, rfl, H⟩
def F_X4_isPlace_18  (z : Z) (P : Int → Prop) : Prop :=
  F_X4_isPlace_23 1 z P
theorem T_X4_isPlace_18  {z : Z} {P : Int → Prop}  (hw : Wz z)   (H : F_X4_isPlace_18 z P) : J mX4_isPlace 1 0 0 (nx (QPI (cz z) P)) 18 [none] [] (cz z) := by
  unfold F_X4_isPlace_18 at H
  refine j_iconst (v := Int32.ofInt 1) (dk dt_X4_isPlace 8 rfl) (by decide) ?_
  refine j_goto 23 (dk dt_X4_isPlace 9 rfl) (by decide) ?_
  exact j_el (T_X4_isPlace_23 (by decide) hw   H) trivial
def F_X4_isPlace  (t0 : Nat) (z : Z) (P : Int → Prop) : Prop :=
  (zK z t0 = 5 ∧ (if zI z t0 0 = 16 then F_X4_isPlace_18 z P else (if zI z t0 0 = 17 then F_X4_isPlace_18 z P else F_X4_isPlace_23 0 z P)))
theorem T_X4_isPlace  {t0 : Nat} {z : Z} {P : Int → Prop}  (hw : Wz z)  (H : F_X4_isPlace t0 z P) : Con mX4_isPlace 1 0 0 [vr (some t0)] (cz z) (QPI (cz z) P) := by
  refine con_of rfl (Nat.le_of_ble_eq_true rfl) (by decide) ?_
  show J mX4_isPlace 1 0 0 _ 0 [some (vr (some t0))] [] (cz z)
  unfold F_X4_isPlace at H
  refine j_aload_n (dk dt_X4_isPlace 0 rfl) rfl ?_
  obtain ⟨k_1, H⟩ := H
  refine jz_getI (kz := 0) (dk dt_X4_isPlace 1 rfl) fl_X4_15 rfl rfl rfl k_1 ?_
  refine j_bipush (v := Int32.ofInt 16) (dk dt_X4_isPlace 2 rfl) (by decide) ?_
  refine jz_icmp_eq 18 (dk dt_X4_isPlace 3 rfl) (by decide) (hw.1 _ _) (by decide) H (fun H => ?_) (fun H => ?_)
  · exact j_el (T_X4_isPlace_18  hw   H) trivial
  · refine j_aload_n (dk dt_X4_isPlace 4 rfl) rfl ?_
    refine jz_getI (kz := 0) (dk dt_X4_isPlace 5 rfl) fl_X4_15 rfl rfl rfl k_1 ?_
    refine j_bipush (v := Int32.ofInt 17) (dk dt_X4_isPlace 6 rfl) (by decide) ?_
    refine jz_icmp_ne 22 (dk dt_X4_isPlace 7 rfl) (by decide) (hw.1 _ _) (by decide) H (fun H => ?_) (fun H => ?_)
    · exact j_el (T_X4_isPlace_18  hw   H) trivial
    · refine j_iconst (v := Int32.ofInt 0) (dk dt_X4_isPlace 10 rfl) (by decide) ?_
      exact j_el (T_X4_isPlace_23 (by decide) hw   H) trivial
def L_X10_args_29 (R_X10_args : Nat → Int → Int → Z → (Z → Prop) → Prop) (R_X10_part : Nat → Int → Int → Z → (Z → Prop) → Prop) (R_X10_under : Nat → Int → Int → Int → Z → (Z → Prop) → Prop) (t0 : Nat) (x1 : Int) (x2 : Int) (x3 : Int) (x4 : Int) (x5 : Int) (x6 : Int) (z : Z) (P : (Int × Int) ⊕ ((Int)) → Prop) : Prop :=
  (if x6 ≤ x4 then P (.inr x5) else (if x5 < 0 then P (.inr x5) else (zK z t0 = 11 ∧ (∃ a_47, zO z t0 1 = some a_47 ∧ zK z a_47 = 15 ∧ (0 ≤ x5 ∧ x5 < zN z a_47 ∧ P (.inl (w32 ((zI z a_47 x5) - 1), w32 (x6 + (-1)))))))))
theorem U_X10_args_29 {n : Nat} {R_X10_args : Nat → Int → Int → Z → (Z → Prop) → Prop} {R_X10_part : Nat → Int → Int → Z → (Z → Prop) → Prop} {R_X10_under : Nat → Int → Int → Int → Z → (Z → Prop) → Prop} {t0 : Nat} {x1 : Int} {x2 : Int} {x3 : Int} {x4 : Int} {x5 : Int} {x6 : Int} {z : Z} {P : (Int × Int) ⊕ ((Int)) → Prop} {post : Option Sv ⊕ String → Hp → Prop} (r_x1 : R32 x1) (r_x2 : R32 x2) (r_x3 : R32 x3) (r_x4 : R32 x4) (r_x5 : R32 x5) (r_x6 : R32 x6) (hw : Wz z) (ih_X10_args : ∀ {t0 : Nat} {x1 : Int} {x2 : Int} {z : Z} {P : Z → Prop}, R32 x1 → R32 x2 → Wz z → R_X10_args t0 x1 x2 z P → Con mX10_args (11 + n) 0 0 [vr (some t0), ii (x1), ii (x2)] (cz z) (QZV P)) (ih_X10_part : ∀ {t0 : Nat} {x1 : Int} {x2 : Int} {z : Z} {P : Z → Prop}, R32 x1 → R32 x2 → Wz z → R_X10_part t0 x1 x2 z P → Con mX10_part (11 + n) 0 0 [vr (some t0), ii (x1), ii (x2)] (cz z) (QZV P)) (ih_X10_under : ∀ {t0 : Nat} {x1 : Int} {x2 : Int} {x3 : Int} {z : Z} {P : Z → Prop}, R32 x1 → R32 x2 → R32 x3 → Wz z → R_X10_under t0 x1 x2 x3 z P → Con mX10_under (11 + n) 0 0 [vr (some t0), ii (x1), ii (x2), ii (x3)] (cz z) (QZV P)) (hl : ∀ (x5 : Int) (x6 : Int), P (.inl (x5, x6)) → R32 x5 → R32 x6 → J mX10_args (11 + n + 1) 0 0 post 29 [some (vr (some t0)), some (ii (x1)), some (ii (x2)), some (ii (x3)), some (ii (x4)), some (ii (x5)), some (ii (x6))] [] (cz z)) (he0 : ∀ (x5 : Int), P (.inr x5) → R32 x5 → J mX10_args (11 + n + 1) 0 0 post 58 [some (vr (some t0)), some (ii (x1)), some (ii (x2)), some (ii (x3)), some (ii (x4)), some (ii (x5)), none] [] (cz z)) (H : L_X10_args_29 R_X10_args R_X10_part R_X10_under t0 x1 x2 x3 x4 x5 x6 z P) : J mX10_args (11 + n + 1) 0 0 post 29 [some (vr (some t0)), some (ii (x1)), some (ii (x2)), some (ii (x3)), some (ii (x4)), some (ii (x5)), some (ii (x6))] [] (cz z) := by
  unfold L_X10_args_29 at H
  refine j_iload (dk dt_X10_args 19 rfl) rfl ?_
  refine j_iload (dk dt_X10_args 20 rfl) rfl ?_
  refine jz_icmp_le 58 (dk dt_X10_args 21 rfl) (by decide) r_x6 r_x4 H (fun H => ?_) (fun H => ?_)
  · exact j_el (he0 _ H r_x5) (And.intro rfl (And.intro rfl (And.intro rfl (And.intro rfl (And.intro rfl (And.intro rfl trivial))))))
  · refine j_iload (dk dt_X10_args 22 rfl) rfl ?_
    refine jz_if_lt 58 (dk dt_X10_args 23 rfl) (by decide) r_x5 H (fun H => ?_) (fun H => ?_)
    · exact j_el (he0 _ H r_x5) (And.intro rfl (And.intro rfl (And.intro rfl (And.intro rfl (And.intro rfl (And.intro rfl trivial))))))
    · refine j_aload_n (dk dt_X10_args 24 rfl) rfl ?_
      obtain ⟨k_42, H⟩ := H
      refine jz_getO (kz := 1) (dk dt_X10_args 25 rfl) fl_X10_15 rfl rfl rfl k_42 ?_
      refine j_iload (dk dt_X10_args 26 rfl) rfl ?_
      obtain ⟨a_47, e_47, k_47, H⟩ := H
      obtain ⟨p_47, q_47, H⟩ := H
      refine jz_iald (dk dt_X10_args 27 rfl) e_47 k_47 p_47 q_47 hw ?_
      refine j_iconst (v := Int32.ofInt 1) (dk dt_X10_args 28 rfl) (by decide) ?_
      refine jz_isub (dk dt_X10_args 29 rfl) ?_
      refine j_istore (dk dt_X10_args 30 rfl) (by decide) ?_
      refine jz_iinc (dk dt_X10_args 31 rfl) rfl ?_
      refine j_goto 29 (dk dt_X10_args 32 rfl) (by decide) ?_
      exact j_el (hl _ _ H (r32_w _) (r32_w _)) (And.intro rfl (And.intro rfl (And.intro rfl (And.intro rfl (And.intro rfl (And.intro rfl (And.intro rfl trivial)))))))
def F_X10_args_69 (R_X10_args : Nat → Int → Int → Z → (Z → Prop) → Prop) (R_X10_part : Nat → Int → Int → Z → (Z → Prop) → Prop) (R_X10_under : Nat → Int → Int → Int → Z → (Z → Prop) → Prop) (t0 : Nat) (x1 : Int) (x2 : Int) (x3 : Int) (x4 : Int) (x5 : Int) (z : Z) (P : (Int × Z) ⊕ ((Z)) → Prop) : Prop :=
  (zK z t0 = 11 ∧ R_X10_part t0 x5 (w32 (x2 + 1)) z (fun z_75 => P (.inl (w32 (x4 + 1), z_75))))
theorem T_X10_args_69 {n : Nat} {R_X10_args : Nat → Int → Int → Z → (Z → Prop) → Prop} {R_X10_part : Nat → Int → Int → Z → (Z → Prop) → Prop} {R_X10_under : Nat → Int → Int → Int → Z → (Z → Prop) → Prop} {t0 : Nat} {x1 : Int} {x2 : Int} {x3 : Int} {x4 : Int} {x5 : Int} {z : Z} {P : (Int × Z) ⊕ ((Z)) → Prop} {post : Option Sv ⊕ String → Hp → Prop} (r_x1 : R32 x1) (r_x2 : R32 x2) (r_x3 : R32 x3) (r_x4 : R32 x4) (r_x5 : R32 x5) (hw : Wz z) (ih_X10_args : ∀ {t0 : Nat} {x1 : Int} {x2 : Int} {z : Z} {P : Z → Prop}, R32 x1 → R32 x2 → Wz z → R_X10_args t0 x1 x2 z P → Con mX10_args (11 + n) 0 0 [vr (some t0), ii (x1), ii (x2)] (cz z) (QZV P)) (ih_X10_part : ∀ {t0 : Nat} {x1 : Int} {x2 : Int} {z : Z} {P : Z → Prop}, R32 x1 → R32 x2 → Wz z → R_X10_part t0 x1 x2 z P → Con mX10_part (11 + n) 0 0 [vr (some t0), ii (x1), ii (x2)] (cz z) (QZV P)) (ih_X10_under : ∀ {t0 : Nat} {x1 : Int} {x2 : Int} {x3 : Int} {z : Z} {P : Z → Prop}, R32 x1 → R32 x2 → R32 x3 → Wz z → R_X10_under t0 x1 x2 x3 z P → Con mX10_under (11 + n) 0 0 [vr (some t0), ii (x1), ii (x2), ii (x3)] (cz z) (QZV P)) (hl : ∀ (x4 : Int) (z : Z), P (.inl (x4, z)) → Wz z → R32 x4 → J mX10_args (11 + n + 1) 0 0 post 13 [some (vr (some t0)), some (ii (x1)), some (ii (x2)), some (ii (x3)), some (ii (x4)), none, none] [] (cz z)) (he0 : ∀ (z : Z), P (.inr z) → Wz z → J mX10_args (11 + n + 1) 0 0 post 84 [none, none, none, none, none, none, none] [] (cz z)) (H : F_X10_args_69 R_X10_args R_X10_part R_X10_under t0 x1 x2 x3 x4 x5 z P) : J mX10_args (11 + n + 1) 0 0 (post) 69 [some (vr (some t0)), some (ii (x1)), some (ii (x2)), some (ii (x3)), some (ii (x4)), some (ii (x5)), none] [] (cz z) := by
  unfold F_X10_args_69 at H
  refine j_aload_n (dk dt_X10_args 38 rfl) rfl ?_
  refine j_iload (dk dt_X10_args 39 rfl) rfl ?_
  refine j_iload_n (dk dt_X10_args 40 rfl) rfl ?_
  refine j_iconst (v := Int32.ofInt 1) (dk dt_X10_args 41 rfl) (by decide) ?_
  refine jz_iadd (dk dt_X10_args 42 rfl) ?_
  obtain ⟨k_75, H⟩ := H
  refine jz_callV2 (dk dt_X10_args 43 rfl) vl_X10_56 rfl (ih_X10_part r_x5 (r32_w _) hw H) k_75 rfl (by omega) (Nat.zero_le _) (Nat.zero_le _) (Nat.le_of_ble_eq_true rfl) (fun v_75 h_75 P_75 => ?_)
  obtain ⟨z_75, rfl, rfl, w_75, H⟩ := P_75
  dsimp only [rs]
  refine jz_iinc (dk dt_X10_args 44 rfl) rfl ?_
  refine j_goto 13 (dk dt_X10_args 45 rfl) (by decide) ?_
  exact j_el (hl _ _ H w_75 (r32_w _)) (And.intro rfl (And.intro rfl (And.intro rfl (And.intro rfl (And.intro rfl trivial)))))
def F_X10_args_58 (R_X10_args : Nat → Int → Int → Z → (Z → Prop) → Prop) (R_X10_part : Nat → Int → Int → Z → (Z → Prop) → Prop) (R_X10_under : Nat → Int → Int → Int → Z → (Z → Prop) → Prop) (t0 : Nat) (x1 : Int) (x2 : Int) (x3 : Int) (x4 : Int) (x5 : Int) (z : Z) (P : (Int × Z) ⊕ ((Z)) → Prop) : Prop :=
  (if x4 ≤ 0 then F_X10_args_69 R_X10_args R_X10_part R_X10_under t0 x1 x2 x3 x4 x5 z P else (zK z t0 = 11 ∧ F_X10_put t0 44 z (fun z_66 => F_X10_args_69 R_X10_args R_X10_part R_X10_under t0 x1 x2 x3 x4 x5 z_66 P)))
theorem T_X10_args_58 {n : Nat} {R_X10_args : Nat → Int → Int → Z → (Z → Prop) → Prop} {R_X10_part : Nat → Int → Int → Z → (Z → Prop) → Prop} {R_X10_under : Nat → Int → Int → Int → Z → (Z → Prop) → Prop} {t0 : Nat} {x1 : Int} {x2 : Int} {x3 : Int} {x4 : Int} {x5 : Int} {z : Z} {P : (Int × Z) ⊕ ((Z)) → Prop} {post : Option Sv ⊕ String → Hp → Prop} (r_x1 : R32 x1) (r_x2 : R32 x2) (r_x3 : R32 x3) (r_x4 : R32 x4) (r_x5 : R32 x5) (hw : Wz z) (ih_X10_args : ∀ {t0 : Nat} {x1 : Int} {x2 : Int} {z : Z} {P : Z → Prop}, R32 x1 → R32 x2 → Wz z → R_X10_args t0 x1 x2 z P → Con mX10_args (11 + n) 0 0 [vr (some t0), ii (x1), ii (x2)] (cz z) (QZV P)) (ih_X10_part : ∀ {t0 : Nat} {x1 : Int} {x2 : Int} {z : Z} {P : Z → Prop}, R32 x1 → R32 x2 → Wz z → R_X10_part t0 x1 x2 z P → Con mX10_part (11 + n) 0 0 [vr (some t0), ii (x1), ii (x2)] (cz z) (QZV P)) (ih_X10_under : ∀ {t0 : Nat} {x1 : Int} {x2 : Int} {x3 : Int} {z : Z} {P : Z → Prop}, R32 x1 → R32 x2 → R32 x3 → Wz z → R_X10_under t0 x1 x2 x3 z P → Con mX10_under (11 + n) 0 0 [vr (some t0), ii (x1), ii (x2), ii (x3)] (cz z) (QZV P)) (hl : ∀ (x4 : Int) (z : Z), P (.inl (x4, z)) → Wz z → R32 x4 → J mX10_args (11 + n + 1) 0 0 post 13 [some (vr (some t0)), some (ii (x1)), some (ii (x2)), some (ii (x3)), some (ii (x4)), none, none] [] (cz z)) (he0 : ∀ (z : Z), P (.inr z) → Wz z → J mX10_args (11 + n + 1) 0 0 post 84 [none, none, none, none, none, none, none] [] (cz z)) (H : F_X10_args_58 R_X10_args R_X10_part R_X10_under t0 x1 x2 x3 x4 x5 z P) : J mX10_args (11 + n + 1) 0 0 (post) 58 [some (vr (some t0)), some (ii (x1)), some (ii (x2)), some (ii (x3)), some (ii (x4)), some (ii (x5)), none] [] (cz z) := by
  unfold F_X10_args_58 at H
  refine j_iload (dk dt_X10_args 33 rfl) rfl ?_
  refine jz_if_le 69 (dk dt_X10_args 34 rfl) (by decide) r_x4 H (fun H => ?_) (fun H => ?_)
  · exact j_el (T_X10_args_69 r_x1 r_x2 r_x3 r_x4 r_x5 hw ih_X10_args ih_X10_part ih_X10_under hl he0 H) (And.intro rfl (And.intro rfl (And.intro rfl (And.intro rfl (And.intro rfl (And.intro rfl trivial))))))
  · refine j_aload_n (dk dt_X10_args 35 rfl) rfl ?_
    refine j_bipush (v := Int32.ofInt 44) (dk dt_X10_args 36 rfl) (by decide) ?_
    obtain ⟨k_66, H⟩ := H
    refine jz_callV1 (dk dt_X10_args 37 rfl) vl_X10_53 rfl (T_X10_put (by decide) hw H) k_66 rfl (by omega) (Nat.zero_le _) (Nat.zero_le _) (Nat.le_of_ble_eq_true rfl) (fun v_66 h_66 P_66 => ?_)
    obtain ⟨z_66, rfl, rfl, w_66, H⟩ := P_66
    dsimp only [rs]
    exact j_el (T_X10_args_69 r_x1 r_x2 r_x3 r_x4 r_x5 w_66 ih_X10_args ih_X10_part ih_X10_under hl he0 H) (And.intro rfl (And.intro rfl (And.intro rfl (And.intro rfl (And.intro rfl (And.intro rfl trivial))))))
def F_X10_args_29 (R_X10_args : Nat → Int → Int → Z → (Z → Prop) → Prop) (R_X10_part : Nat → Int → Int → Z → (Z → Prop) → Prop) (R_X10_under : Nat → Int → Int → Int → Z → (Z → Prop) → Prop) (t0 : Nat) (x1 : Int) (x2 : Int) (x3 : Int) (x4 : Int) (x5 : Int) (x6 : Int) (z : Z) (P : (Int × Z) ⊕ ((Z)) → Prop) : Prop :=
  lp (S := Int × Int) (E := (Int)) (fun q P_ => L_X10_args_29 R_X10_args R_X10_part R_X10_under t0 x1 x2 x3 x4 q.1 q.2 z P_) (x5, x6) (fun (x5 : Int) => F_X10_args_58 R_X10_args R_X10_part R_X10_under t0 x1 x2 x3 x4 x5 z P)
theorem T_X10_args_29 {n : Nat} {R_X10_args : Nat → Int → Int → Z → (Z → Prop) → Prop} {R_X10_part : Nat → Int → Int → Z → (Z → Prop) → Prop} {R_X10_under : Nat → Int → Int → Int → Z → (Z → Prop) → Prop} {t0 : Nat} {x1 : Int} {x2 : Int} {x3 : Int} {x4 : Int} {x5 : Int} {x6 : Int} {z : Z} {P : (Int × Z) ⊕ ((Z)) → Prop} {post : Option Sv ⊕ String → Hp → Prop} (r_x1 : R32 x1) (r_x2 : R32 x2) (r_x3 : R32 x3) (r_x4 : R32 x4) (r_x5 : R32 x5) (r_x6 : R32 x6) (hw : Wz z) (ih_X10_args : ∀ {t0 : Nat} {x1 : Int} {x2 : Int} {z : Z} {P : Z → Prop}, R32 x1 → R32 x2 → Wz z → R_X10_args t0 x1 x2 z P → Con mX10_args (11 + n) 0 0 [vr (some t0), ii (x1), ii (x2)] (cz z) (QZV P)) (ih_X10_part : ∀ {t0 : Nat} {x1 : Int} {x2 : Int} {z : Z} {P : Z → Prop}, R32 x1 → R32 x2 → Wz z → R_X10_part t0 x1 x2 z P → Con mX10_part (11 + n) 0 0 [vr (some t0), ii (x1), ii (x2)] (cz z) (QZV P)) (ih_X10_under : ∀ {t0 : Nat} {x1 : Int} {x2 : Int} {x3 : Int} {z : Z} {P : Z → Prop}, R32 x1 → R32 x2 → R32 x3 → Wz z → R_X10_under t0 x1 x2 x3 z P → Con mX10_under (11 + n) 0 0 [vr (some t0), ii (x1), ii (x2), ii (x3)] (cz z) (QZV P)) (hl : ∀ (x4 : Int) (z : Z), P (.inl (x4, z)) → Wz z → R32 x4 → J mX10_args (11 + n + 1) 0 0 post 13 [some (vr (some t0)), some (ii (x1)), some (ii (x2)), some (ii (x3)), some (ii (x4)), none, none] [] (cz z)) (he0 : ∀ (z : Z), P (.inr z) → Wz z → J mX10_args (11 + n + 1) 0 0 post 84 [none, none, none, none, none, none, none] [] (cz z)) (H : F_X10_args_29 R_X10_args R_X10_part R_X10_under t0 x1 x2 x3 x4 x5 x6 z P) : J mX10_args (11 + n + 1) 0 0 (post) 29 [some (vr (some t0)), some (ii (x1)), some (ii (x2)), some (ii (x3)), some (ii (x4)), some (ii (x5)), some (ii (x6))] [] (cz z) := by
  unfold F_X10_args_29 at H
  refine lp_J (G := fun q => R32 (q.1) → R32 (q.2) → J mX10_args (11 + n + 1) 0 0 (post) 29 [some (vr (some t0)), some (ii (x1)), some (ii (x2)), some (ii (x3)), some (ii (x4)), some (ii ((q.1))), some (ii ((q.2)))] [] (cz z)) (fun q P_ hl_ he_ Hb => ?_) (x5, x6) H r_x5 r_x6
  obtain ⟨x5, x6⟩ := q
  intro r_x5 r_x6
  refine U_X10_args_29 (P := P_) r_x1 r_x2 r_x3 r_x4 r_x5 r_x6 hw ih_X10_args ih_X10_part ih_X10_under (fun x5 x6 Hp r_x5 r_x6 => hl_ (x5, x6) Hp r_x5 r_x6) ?_ Hb
  · intro x5 Hp r_x5
    have H := he_ _ Hp
    exact j_el (T_X10_args_58 r_x1 r_x2 r_x3 r_x4 r_x5 hw ih_X10_args ih_X10_part ih_X10_under hl he0 H) (And.intro rfl (And.intro rfl (And.intro rfl (And.intro rfl (And.intro rfl (And.intro rfl trivial))))))
def L_X10_args_13 (R_X10_args : Nat → Int → Int → Z → (Z → Prop) → Prop) (R_X10_part : Nat → Int → Int → Z → (Z → Prop) → Prop) (R_X10_under : Nat → Int → Int → Int → Z → (Z → Prop) → Prop) (t0 : Nat) (x1 : Int) (x2 : Int) (x3 : Int) (x4 : Int) (z : Z) (P : (Int × Z) ⊕ ((Z)) → Prop) : Prop :=
  (if x3 ≤ x4 then P (.inr z) else F_X10_args_29 R_X10_args R_X10_part R_X10_under t0 x1 x2 x3 x4 (w32 (x1 - 1)) (w32 (x3 - 1)) z P)
theorem U_X10_args_13 {n : Nat} {R_X10_args : Nat → Int → Int → Z → (Z → Prop) → Prop} {R_X10_part : Nat → Int → Int → Z → (Z → Prop) → Prop} {R_X10_under : Nat → Int → Int → Int → Z → (Z → Prop) → Prop} {t0 : Nat} {x1 : Int} {x2 : Int} {x3 : Int} {x4 : Int} {z : Z} {P : (Int × Z) ⊕ ((Z)) → Prop} {post : Option Sv ⊕ String → Hp → Prop} (r_x1 : R32 x1) (r_x2 : R32 x2) (r_x3 : R32 x3) (r_x4 : R32 x4) (hw : Wz z) (ih_X10_args : ∀ {t0 : Nat} {x1 : Int} {x2 : Int} {z : Z} {P : Z → Prop}, R32 x1 → R32 x2 → Wz z → R_X10_args t0 x1 x2 z P → Con mX10_args (11 + n) 0 0 [vr (some t0), ii (x1), ii (x2)] (cz z) (QZV P)) (ih_X10_part : ∀ {t0 : Nat} {x1 : Int} {x2 : Int} {z : Z} {P : Z → Prop}, R32 x1 → R32 x2 → Wz z → R_X10_part t0 x1 x2 z P → Con mX10_part (11 + n) 0 0 [vr (some t0), ii (x1), ii (x2)] (cz z) (QZV P)) (ih_X10_under : ∀ {t0 : Nat} {x1 : Int} {x2 : Int} {x3 : Int} {z : Z} {P : Z → Prop}, R32 x1 → R32 x2 → R32 x3 → Wz z → R_X10_under t0 x1 x2 x3 z P → Con mX10_under (11 + n) 0 0 [vr (some t0), ii (x1), ii (x2), ii (x3)] (cz z) (QZV P)) (hl : ∀ (x4 : Int) (z : Z), P (.inl (x4, z)) → Wz z → R32 x4 → J mX10_args (11 + n + 1) 0 0 post 13 [some (vr (some t0)), some (ii (x1)), some (ii (x2)), some (ii (x3)), some (ii (x4)), none, none] [] (cz z)) (he0 : ∀ (z : Z), P (.inr z) → Wz z → J mX10_args (11 + n + 1) 0 0 post 84 [none, none, none, none, none, none, none] [] (cz z)) (H : L_X10_args_13 R_X10_args R_X10_part R_X10_under t0 x1 x2 x3 x4 z P) : J mX10_args (11 + n + 1) 0 0 post 13 [some (vr (some t0)), some (ii (x1)), some (ii (x2)), some (ii (x3)), some (ii (x4)), none, none] [] (cz z) := by
  unfold L_X10_args_13 at H
  refine j_iload (dk dt_X10_args 8 rfl) rfl ?_
  refine j_iload_n (dk dt_X10_args 9 rfl) rfl ?_
  refine jz_icmp_ge 84 (dk dt_X10_args 10 rfl) (by decide) r_x4 r_x3 H (fun H => ?_) (fun H => ?_)
  · exact j_el (he0 _ H hw) trivial
  · refine j_iload_n (dk dt_X10_args 11 rfl) rfl ?_
    refine j_iconst (v := Int32.ofInt 1) (dk dt_X10_args 12 rfl) (by decide) ?_
    refine jz_isub (dk dt_X10_args 13 rfl) ?_
    refine j_istore (dk dt_X10_args 14 rfl) (by decide) ?_
    refine j_iload_n (dk dt_X10_args 15 rfl) rfl ?_
    refine j_iconst (v := Int32.ofInt 1) (dk dt_X10_args 16 rfl) (by decide) ?_
    refine jz_isub (dk dt_X10_args 17 rfl) ?_
    refine j_istore (dk dt_X10_args 18 rfl) (by decide) ?_
    exact j_el (T_X10_args_29 r_x1 r_x2 r_x3 r_x4 (r32_w _) (r32_w _) hw ih_X10_args ih_X10_part ih_X10_under hl he0 H) (And.intro rfl (And.intro rfl (And.intro rfl (And.intro rfl (And.intro rfl (And.intro rfl (And.intro rfl trivial)))))))
def F_X10_args_13 (R_X10_args : Nat → Int → Int → Z → (Z → Prop) → Prop) (R_X10_part : Nat → Int → Int → Z → (Z → Prop) → Prop) (R_X10_under : Nat → Int → Int → Int → Z → (Z → Prop) → Prop) (t0 : Nat) (x1 : Int) (x2 : Int) (x3 : Int) (x4 : Int) (z : Z) (P : Z → Prop) : Prop :=
  lp (S := Int × Z) (E := (Z)) (fun q P_ => L_X10_args_13 R_X10_args R_X10_part R_X10_under t0 x1 x2 x3 q.1 q.2 P_) (x4, z) (fun (z : Z) => P z)
theorem T_X10_args_13 {n : Nat} {R_X10_args : Nat → Int → Int → Z → (Z → Prop) → Prop} {R_X10_part : Nat → Int → Int → Z → (Z → Prop) → Prop} {R_X10_under : Nat → Int → Int → Int → Z → (Z → Prop) → Prop} {t0 : Nat} {x1 : Int} {x2 : Int} {x3 : Int} {x4 : Int} {z : Z} {P : Z → Prop} (r_x1 : R32 x1) (r_x2 : R32 x2) (r_x3 : R32 x3) (r_x4 : R32 x4) (hw : Wz z) (ih_X10_args : ∀ {t0 : Nat} {x1 : Int} {x2 : Int} {z : Z} {P : Z → Prop}, R32 x1 → R32 x2 → Wz z → R_X10_args t0 x1 x2 z P → Con mX10_args (11 + n) 0 0 [vr (some t0), ii (x1), ii (x2)] (cz z) (QZV P)) (ih_X10_part : ∀ {t0 : Nat} {x1 : Int} {x2 : Int} {z : Z} {P : Z → Prop}, R32 x1 → R32 x2 → Wz z → R_X10_part t0 x1 x2 z P → Con mX10_part (11 + n) 0 0 [vr (some t0), ii (x1), ii (x2)] (cz z) (QZV P)) (ih_X10_under : ∀ {t0 : Nat} {x1 : Int} {x2 : Int} {x3 : Int} {z : Z} {P : Z → Prop}, R32 x1 → R32 x2 → R32 x3 → Wz z → R_X10_under t0 x1 x2 x3 z P → Con mX10_under (11 + n) 0 0 [vr (some t0), ii (x1), ii (x2), ii (x3)] (cz z) (QZV P))  (H : F_X10_args_13 R_X10_args R_X10_part R_X10_under t0 x1 x2 x3 x4 z P) : J mX10_args (11 + n + 1) 0 0 (nx (QZV P)) 13 [some (vr (some t0)), some (ii (x1)), some (ii (x2)), some (ii (x3)), some (ii (x4)), none, none] [] (cz z) := by
  unfold F_X10_args_13 at H
  refine lp_J (G := fun q => Wz (q.2) → R32 (q.1) → J mX10_args (11 + n + 1) 0 0 (nx (QZV P)) 13 [some (vr (some t0)), some (ii (x1)), some (ii (x2)), some (ii (x3)), some (ii ((q.1))), none, none] [] (cz (q.2))) (fun q P_ hl_ he_ Hb => ?_) (x4, z) H hw r_x4
  obtain ⟨x4, z⟩ := q
  intro hw r_x4
  refine U_X10_args_13 (P := P_) r_x1 r_x2 r_x3 r_x4 hw ih_X10_args ih_X10_part ih_X10_under (fun x4 z Hp hw r_x4 => hl_ (x4, z) Hp hw r_x4) ?_ Hb
  · intro z Hp hw
    have H := he_ _ Hp
    exact j_return (dk dt_X10_args 46 rfl) rfl ⟨_, rfl, rfl, hw, H⟩
def B_X10_args (R_X10_args : Nat → Int → Int → Z → (Z → Prop) → Prop) (R_X10_part : Nat → Int → Int → Z → (Z → Prop) → Prop) (R_X10_under : Nat → Int → Int → Int → Z → (Z → Prop) → Prop) (t0 : Nat) (x1 : Int) (x2 : Int) (z : Z) (P : Z → Prop) : Prop :=
  (zK z t0 = 11 ∧ (∃ a_5, zO z t0 4 = some a_5 ∧ zK z a_5 = 20 ∧ (0 ≤ x1 ∧ x1 < zN z a_5 ∧ (∃ a_6, zO z a_5 x1 = some a_6 ∧ zK z a_6 = 5 ∧ F_X10_args_13 R_X10_args R_X10_part R_X10_under t0 x1 x2 (zI z a_6 1) 0 z P))))
theorem V_X10_args {n : Nat} {R_X10_args : Nat → Int → Int → Z → (Z → Prop) → Prop} {R_X10_part : Nat → Int → Int → Z → (Z → Prop) → Prop} {R_X10_under : Nat → Int → Int → Int → Z → (Z → Prop) → Prop} {t0 : Nat} {x1 : Int} {x2 : Int} {z : Z} {P : Z → Prop} (r_x1 : R32 x1) (r_x2 : R32 x2) (hw : Wz z) (ih_X10_args : ∀ {t0 : Nat} {x1 : Int} {x2 : Int} {z : Z} {P : Z → Prop}, R32 x1 → R32 x2 → Wz z → R_X10_args t0 x1 x2 z P → Con mX10_args (11 + n) 0 0 [vr (some t0), ii (x1), ii (x2)] (cz z) (QZV P)) (ih_X10_part : ∀ {t0 : Nat} {x1 : Int} {x2 : Int} {z : Z} {P : Z → Prop}, R32 x1 → R32 x2 → Wz z → R_X10_part t0 x1 x2 z P → Con mX10_part (11 + n) 0 0 [vr (some t0), ii (x1), ii (x2)] (cz z) (QZV P)) (ih_X10_under : ∀ {t0 : Nat} {x1 : Int} {x2 : Int} {x3 : Int} {z : Z} {P : Z → Prop}, R32 x1 → R32 x2 → R32 x3 → Wz z → R_X10_under t0 x1 x2 x3 z P → Con mX10_under (11 + n) 0 0 [vr (some t0), ii (x1), ii (x2), ii (x3)] (cz z) (QZV P)) (H : B_X10_args R_X10_args R_X10_part R_X10_under t0 x1 x2 z P) : Con mX10_args (11 + n + 1) 0 0 [vr (some t0), ii (x1), ii (x2)] (cz z) (QZV P) := by
  refine con_of rfl (Nat.le_of_ble_eq_true rfl) (by decide) ?_
  show J mX10_args (11 + n + 1) 0 0 _ 0 [some (vr (some t0)), some (ii (x1)), some (ii (x2)), none, none, none, none] [] (cz z)
  unfold B_X10_args at H
  refine j_aload_n (dk dt_X10_args 0 rfl) rfl ?_
  obtain ⟨k_1, H⟩ := H
  refine jz_getO (kz := 4) (dk dt_X10_args 1 rfl) fl_X10_49 rfl rfl rfl k_1 ?_
  refine j_iload_n (dk dt_X10_args 2 rfl) rfl ?_
  obtain ⟨a_5, e_5, k_5, H⟩ := H
  obtain ⟨p_5, q_5, H⟩ := H
  refine jz_aald (t := 6) (dk dt_X10_args 3 rfl) e_5 k_5 (by decide) (by decide) p_5 q_5 hw ?_
  obtain ⟨a_6, e_6, k_6, H⟩ := H
  refine jz_getI (kz := 1) (dk dt_X10_args 4 rfl) fl_X10_91 rfl rfl e_6 k_6 ?_
  refine j_istore_n (dk dt_X10_args 5 rfl) (by decide) ?_
  refine j_iconst (v := Int32.ofInt 0) (dk dt_X10_args 6 rfl) (by decide) ?_
  refine j_istore (dk dt_X10_args 7 rfl) (by decide) ?_
  exact j_el (T_X10_args_13 r_x1 r_x2 (hw.1 _ _) (by decide) hw ih_X10_args ih_X10_part ih_X10_under  H) (And.intro rfl (And.intro rfl (And.intro rfl (And.intro rfl (And.intro rfl trivial)))))
def F_X10_part_25 (R_X10_args : Nat → Int → Int → Z → (Z → Prop) → Prop) (R_X10_part : Nat → Int → Int → Z → (Z → Prop) → Prop) (R_X10_under : Nat → Int → Int → Int → Z → (Z → Prop) → Prop) (z : Z) (P : Z → Prop) : Prop :=
  P z
theorem T_X10_part_25 {n : Nat} {R_X10_args : Nat → Int → Int → Z → (Z → Prop) → Prop} {R_X10_part : Nat → Int → Int → Z → (Z → Prop) → Prop} {R_X10_under : Nat → Int → Int → Int → Z → (Z → Prop) → Prop} {z : Z} {P : Z → Prop}  (hw : Wz z) (ih_X10_args : ∀ {t0 : Nat} {x1 : Int} {x2 : Int} {z : Z} {P : Z → Prop}, R32 x1 → R32 x2 → Wz z → R_X10_args t0 x1 x2 z P → Con mX10_args (11 + n) 0 0 [vr (some t0), ii (x1), ii (x2)] (cz z) (QZV P)) (ih_X10_part : ∀ {t0 : Nat} {x1 : Int} {x2 : Int} {z : Z} {P : Z → Prop}, R32 x1 → R32 x2 → Wz z → R_X10_part t0 x1 x2 z P → Con mX10_part (11 + n) 0 0 [vr (some t0), ii (x1), ii (x2)] (cz z) (QZV P)) (ih_X10_under : ∀ {t0 : Nat} {x1 : Int} {x2 : Int} {x3 : Int} {z : Z} {P : Z → Prop}, R32 x1 → R32 x2 → R32 x3 → Wz z → R_X10_under t0 x1 x2 x3 z P → Con mX10_under (11 + n) 0 0 [vr (some t0), ii (x1), ii (x2), ii (x3)] (cz z) (QZV P))  (H : F_X10_part_25 R_X10_args R_X10_part R_X10_under z P) : J mX10_part (11 + n + 1) 0 0 (nx (QZV P)) 25 [none, none, none, none, none] [] (cz z) := by
  unfold F_X10_part_25 at H
  exact j_return (dk dt_X10_part 13 rfl) rfl ⟨_, rfl, rfl, hw, H⟩
def F_X10_part_225 (R_X10_args : Nat → Int → Int → Z → (Z → Prop) → Prop) (R_X10_part : Nat → Int → Int → Z → (Z → Prop) → Prop) (R_X10_under : Nat → Int → Int → Int → Z → (Z → Prop) → Prop) (z : Z) (P : Z → Prop) : Prop :=
  P z
theorem T_X10_part_225 {n : Nat} {R_X10_args : Nat → Int → Int → Z → (Z → Prop) → Prop} {R_X10_part : Nat → Int → Int → Z → (Z → Prop) → Prop} {R_X10_under : Nat → Int → Int → Int → Z → (Z → Prop) → Prop} {z : Z} {P : Z → Prop}  (hw : Wz z) (ih_X10_args : ∀ {t0 : Nat} {x1 : Int} {x2 : Int} {z : Z} {P : Z → Prop}, R32 x1 → R32 x2 → Wz z → R_X10_args t0 x1 x2 z P → Con mX10_args (11 + n) 0 0 [vr (some t0), ii (x1), ii (x2)] (cz z) (QZV P)) (ih_X10_part : ∀ {t0 : Nat} {x1 : Int} {x2 : Int} {z : Z} {P : Z → Prop}, R32 x1 → R32 x2 → Wz z → R_X10_part t0 x1 x2 z P → Con mX10_part (11 + n) 0 0 [vr (some t0), ii (x1), ii (x2)] (cz z) (QZV P)) (ih_X10_under : ∀ {t0 : Nat} {x1 : Int} {x2 : Int} {x3 : Int} {z : Z} {P : Z → Prop}, R32 x1 → R32 x2 → R32 x3 → Wz z → R_X10_under t0 x1 x2 x3 z P → Con mX10_under (11 + n) 0 0 [vr (some t0), ii (x1), ii (x2), ii (x3)] (cz z) (QZV P))  (H : F_X10_part_225 R_X10_args R_X10_part R_X10_under z P) : J mX10_part (11 + n + 1) 0 0 (nx (QZV P)) 225 [none, none, none, none, none] [] (cz z) := by
  unfold F_X10_part_225 at H
  exact j_return (dk dt_X10_part 124 rfl) rfl ⟨_, rfl, rfl, hw, H⟩
def F_X10_part_155 (R_X10_args : Nat → Int → Int → Z → (Z → Prop) → Prop) (R_X10_part : Nat → Int → Int → Z → (Z → Prop) → Prop) (R_X10_under : Nat → Int → Int → Int → Z → (Z → Prop) → Prop) (t0 : Nat) (x1 : Int) (x2 : Int) (x3 : Option Nat) (x4 : Int) (s0 : Option Nat) (s1 : Int) (s2 : Int) (z : Z) (P : Z → Prop) : Prop :=
  (∃ a_156, s0 = some a_156 ∧ zK z a_156 = 11 ∧ R_X10_under a_156 s1 s2 x2 z (fun z_156 => (∃ a_163, x3 = some a_163 ∧ zK z_156 a_163 = 5 ∧ (zK z_156 t0 = 11 ∧ F_X10_putWord t0 3 (w32 ((w32 ((zI z_156 a_163 0) - 1)) * 2)) 2 z_156 (fun z_171 => (zK z_171 t0 = 11 ∧ R_X10_under t0 (w32 (x1 - 1)) (w32 (x4 + 1)) x2 z_171 (fun z_183 => F_X10_part_225 R_X10_args R_X10_part R_X10_under z_183 P)))))))
theorem T_X10_part_155 {n : Nat} {R_X10_args : Nat → Int → Int → Z → (Z → Prop) → Prop} {R_X10_part : Nat → Int → Int → Z → (Z → Prop) → Prop} {R_X10_under : Nat → Int → Int → Int → Z → (Z → Prop) → Prop} {t0 : Nat} {x1 : Int} {x2 : Int} {x3 : Option Nat} {x4 : Int} {s0 : Option Nat} {s1 : Int} {s2 : Int} {z : Z} {P : Z → Prop} (r_x1 : R32 x1) (r_x2 : R32 x2) (r_x4 : R32 x4) (r_s1 : R32 s1) (r_s2 : R32 s2) (hw : Wz z) (ih_X10_args : ∀ {t0 : Nat} {x1 : Int} {x2 : Int} {z : Z} {P : Z → Prop}, R32 x1 → R32 x2 → Wz z → R_X10_args t0 x1 x2 z P → Con mX10_args (11 + n) 0 0 [vr (some t0), ii (x1), ii (x2)] (cz z) (QZV P)) (ih_X10_part : ∀ {t0 : Nat} {x1 : Int} {x2 : Int} {z : Z} {P : Z → Prop}, R32 x1 → R32 x2 → Wz z → R_X10_part t0 x1 x2 z P → Con mX10_part (11 + n) 0 0 [vr (some t0), ii (x1), ii (x2)] (cz z) (QZV P)) (ih_X10_under : ∀ {t0 : Nat} {x1 : Int} {x2 : Int} {x3 : Int} {z : Z} {P : Z → Prop}, R32 x1 → R32 x2 → R32 x3 → Wz z → R_X10_under t0 x1 x2 x3 z P → Con mX10_under (11 + n) 0 0 [vr (some t0), ii (x1), ii (x2), ii (x3)] (cz z) (QZV P))  (H : F_X10_part_155 R_X10_args R_X10_part R_X10_under t0 x1 x2 x3 x4 s0 s1 s2 z P) : J mX10_part (11 + n + 1) 0 0 (nx (QZV P)) 155 [some (vr (some t0)), some (ii (x1)), some (ii (x2)), some (vr (x3)), some (ii (x4))] [ii (s2), ii (s1), vr (s0)] (cz z) := by
  unfold F_X10_part_155 at H
  refine j_iload_n (dk dt_X10_part 82 rfl) rfl ?_
  obtain ⟨a_156, e_156, k_156, H⟩ := H
  refine jz_callV3 (dk dt_X10_part 83 rfl) vl_X10_113 e_156 (ih_X10_under r_s1 r_s2 r_x2 hw H) k_156 rfl (by omega) (Nat.zero_le _) (Nat.zero_le _) (Nat.le_of_ble_eq_true rfl) (fun v_156 h_156 P_156 => ?_)
  obtain ⟨z_156, rfl, rfl, w_156, H⟩ := P_156
  dsimp only [rs]
  refine j_aload_n (dk dt_X10_part 84 rfl) rfl ?_
  refine j_ldcS 3 rfl (dk dt_X10_part 85 rfl) rfl rfl ?_
  refine j_aload_n (dk dt_X10_part 86 rfl) rfl ?_
  obtain ⟨a_163, e_163, k_163, H⟩ := H
  refine jz_getI (kz := 0) (dk dt_X10_part 87 rfl) fl_X10_96 rfl rfl e_163 k_163 ?_
  refine j_iconst (v := Int32.ofInt 1) (dk dt_X10_part 88 rfl) (by decide) ?_
  refine jz_isub (dk dt_X10_part 89 rfl) ?_
  refine j_iconst (v := Int32.ofInt 2) (dk dt_X10_part 90 rfl) (by decide) ?_
  refine jz_imul (dk dt_X10_part 91 rfl) ?_
  refine j_iconst (v := Int32.ofInt 2) (dk dt_X10_part 92 rfl) (by decide) ?_
  obtain ⟨k_171, H⟩ := H
  refine jz_callV3 (dk dt_X10_part 93 rfl) vl_X10_123 rfl (T_X10_putWord (r32_w _) (by decide) w_156 H) k_171 rfl (by omega) (Nat.zero_le _) (Nat.zero_le _) (Nat.le_of_ble_eq_true rfl) (fun v_171 h_171 P_171 => ?_)
  obtain ⟨z_171, rfl, rfl, w_171, H⟩ := P_171
  dsimp only [rs]
  refine j_aload_n (dk dt_X10_part 94 rfl) rfl ?_
  refine j_iload_n (dk dt_X10_part 95 rfl) rfl ?_
  refine j_iconst (v := Int32.ofInt 1) (dk dt_X10_part 96 rfl) (by decide) ?_
  refine jz_isub (dk dt_X10_part 97 rfl) ?_
  refine j_iload (dk dt_X10_part 98 rfl) rfl ?_
  refine j_iconst (v := Int32.ofInt 1) (dk dt_X10_part 99 rfl) (by decide) ?_
  refine jz_iadd (dk dt_X10_part 100 rfl) ?_
  refine j_iload_n (dk dt_X10_part 101 rfl) rfl ?_
  obtain ⟨k_183, H⟩ := H
  refine jz_callV3 (dk dt_X10_part 102 rfl) vl_X10_113 rfl (ih_X10_under (r32_w _) (r32_w _) r_x2 w_171 H) k_183 rfl (by omega) (Nat.zero_le _) (Nat.zero_le _) (Nat.le_of_ble_eq_true rfl) (fun v_183 h_183 P_183 => ?_)
  obtain ⟨z_183, rfl, rfl, w_183, H⟩ := P_183
  dsimp only [rs]
  refine j_goto 225 (dk dt_X10_part 103 rfl) (by decide) ?_
  exact j_el (T_X10_part_225  w_183 ih_X10_args ih_X10_part ih_X10_under  H) trivial
def B_X10_part (R_X10_args : Nat → Int → Int → Z → (Z → Prop) → Prop) (R_X10_part : Nat → Int → Int → Z → (Z → Prop) → Prop) (R_X10_under : Nat → Int → Int → Int → Z → (Z → Prop) → Prop) (t0 : Nat) (x1 : Int) (x2 : Int) (z : Z) (P : Z → Prop) : Prop :=
  (if x1 < 0 then F_X10_part_25 R_X10_args R_X10_part R_X10_under z P else (zK z t0 = 11 ∧ (∃ a_9, zO z t0 4 = some a_9 ∧ zK z a_9 = 20 ∧ (if zN z a_9 ≤ x1 then F_X10_part_25 R_X10_args R_X10_part R_X10_under z P else (if 60 ≤ x1 then F_X10_part_25 R_X10_args R_X10_part R_X10_under z P else (if x2 ≤ 60 then (0 ≤ x1 ∧ x1 < zN z a_9 ∧ (∃ a_34, zO z a_9 x1 = some a_34 ∧ zK z a_34 = 5 ∧ (if zI z a_34 0 = 14 then F_X10_literal t0 (zO z a_34 2) z (fun z_47 => F_X10_part_225 R_X10_args R_X10_part R_X10_under z_47 P) else (if zI z a_34 0 = 15 then F_X10_putReference t0 z (fun z_63 => F_X10_part_225 R_X10_args R_X10_part R_X10_under z_63 P) else F_X4_isPlace a_34 z (fun x_70 => (if x_70 = 0 then (if zI z a_34 0 = 13 then F_X10_put t0 45 z (fun z_96 => (zK z_96 t0 = 11 ∧ R_X10_under t0 (w32 (x1 - 1)) 5 x2 z_96 (fun z_105 => F_X10_part_225 R_X10_args R_X10_part R_X10_under z_105 P))) else (if 12 < zI z a_34 0 then F_X10_putWord t0 4 (w32 ((w32 ((zI z a_34 0) - 18)) * 8)) 8 z (fun z_204 => (zK z_204 t0 = 11 ∧ F_X10_put t0 40 z_204 (fun z_210 => (zK z_210 t0 = 11 ∧ R_X10_args t0 x1 x2 z_210 (fun z_216 => (zK z_216 t0 = 11 ∧ F_X10_put t0 41 z_216 (fun z_222 => F_X10_part_225 R_X10_args R_X10_part R_X10_under z_222 P))))))) else F_X11_bindsOf (zI z a_34 0) (fun x_124 => (∃ a_137, zO z t0 1 = some a_137 ∧ zK z a_137 = 15 ∧ (0 ≤ w32 (x1 - 1) ∧ w32 (x1 - 1) < zN z a_137 ∧ (if x_124 = 1 then F_X10_part_155 R_X10_args R_X10_part R_X10_under t0 x1 x2 (zO z a_9 x1) x_124 (some t0) (w32 ((zI z a_137 (w32 (x1 - 1))) - 1)) (w32 (x_124 + 1)) z P else F_X10_part_155 R_X10_args R_X10_part R_X10_under t0 x1 x2 (zO z a_9 x1) x_124 (some t0) (w32 ((zI z a_137 (w32 (x1 - 1))) - 1)) x_124 z P)))))) else F_X10_place t0 (zO z a_9 x1) z (fun z_78 => F_X10_part_225 R_X10_args R_X10_part R_X10_under z_78 P))))))) else F_X10_part_25 R_X10_args R_X10_part R_X10_under z P))))))
theorem V_X10_part {n : Nat} {R_X10_args : Nat → Int → Int → Z → (Z → Prop) → Prop} {R_X10_part : Nat → Int → Int → Z → (Z → Prop) → Prop} {R_X10_under : Nat → Int → Int → Int → Z → (Z → Prop) → Prop} {t0 : Nat} {x1 : Int} {x2 : Int} {z : Z} {P : Z → Prop} (r_x1 : R32 x1) (r_x2 : R32 x2) (hw : Wz z) (ih_X10_args : ∀ {t0 : Nat} {x1 : Int} {x2 : Int} {z : Z} {P : Z → Prop}, R32 x1 → R32 x2 → Wz z → R_X10_args t0 x1 x2 z P → Con mX10_args (11 + n) 0 0 [vr (some t0), ii (x1), ii (x2)] (cz z) (QZV P)) (ih_X10_part : ∀ {t0 : Nat} {x1 : Int} {x2 : Int} {z : Z} {P : Z → Prop}, R32 x1 → R32 x2 → Wz z → R_X10_part t0 x1 x2 z P → Con mX10_part (11 + n) 0 0 [vr (some t0), ii (x1), ii (x2)] (cz z) (QZV P)) (ih_X10_under : ∀ {t0 : Nat} {x1 : Int} {x2 : Int} {x3 : Int} {z : Z} {P : Z → Prop}, R32 x1 → R32 x2 → R32 x3 → Wz z → R_X10_under t0 x1 x2 x3 z P → Con mX10_under (11 + n) 0 0 [vr (some t0), ii (x1), ii (x2), ii (x3)] (cz z) (QZV P)) (H : B_X10_part R_X10_args R_X10_part R_X10_under t0 x1 x2 z P) : Con mX10_part (11 + n + 1) 0 0 [vr (some t0), ii (x1), ii (x2)] (cz z) (QZV P) := by
  refine con_of rfl (Nat.le_of_ble_eq_true rfl) (by decide) ?_
  show J mX10_part (11 + n + 1) 0 0 _ 0 [some (vr (some t0)), some (ii (x1)), some (ii (x2)), none, none] [] (cz z)
  unfold B_X10_part at H
  refine j_iload_n (dk dt_X10_part 0 rfl) rfl ?_
  refine jz_if_lt 25 (dk dt_X10_part 1 rfl) (by decide) r_x1 H (fun H => ?_) (fun H => ?_)
  · exact j_el (T_X10_part_25  hw ih_X10_args ih_X10_part ih_X10_under  H) trivial
  · refine j_iload_n (dk dt_X10_part 2 rfl) rfl ?_
    refine j_aload_n (dk dt_X10_part 3 rfl) rfl ?_
    obtain ⟨k_6, H⟩ := H
    refine jz_getO (kz := 4) (dk dt_X10_part 4 rfl) fl_X10_49 rfl rfl rfl k_6 ?_
    obtain ⟨a_9, e_9, k_9, H⟩ := H
    refine jz_alen (t := 6) (dk dt_X10_part 5 rfl) e_9 k_9 (by decide) hw ?_
    refine jz_icmp_ge 25 (dk dt_X10_part 6 rfl) (by decide) r_x1 (r32_len hw _) H (fun H => ?_) (fun H => ?_)
    · exact j_el (T_X10_part_25  hw ih_X10_args ih_X10_part ih_X10_under  H) trivial
    · refine j_iload_n (dk dt_X10_part 7 rfl) rfl ?_
      refine j_bipush (v := Int32.ofInt 60) (dk dt_X10_part 8 rfl) (by decide) ?_
      refine jz_icmp_ge 25 (dk dt_X10_part 9 rfl) (by decide) r_x1 (by decide) H (fun H => ?_) (fun H => ?_)
      · exact j_el (T_X10_part_25  hw ih_X10_args ih_X10_part ih_X10_under  H) trivial
      · refine j_iload_n (dk dt_X10_part 10 rfl) rfl ?_
        refine j_bipush (v := Int32.ofInt 60) (dk dt_X10_part 11 rfl) (by decide) ?_
        refine jz_icmp_le 26 (dk dt_X10_part 12 rfl) (by decide) r_x2 (by decide) H (fun H => ?_) (fun H => ?_)
        · refine j_aload_n (dk dt_X10_part 14 rfl) rfl ?_
          refine jz_getO (kz := 4) (dk dt_X10_part 15 rfl) fl_X10_49 rfl rfl rfl k_6 ?_
          refine j_iload_n (dk dt_X10_part 16 rfl) rfl ?_
          obtain ⟨p_31, q_31, H⟩ := H
          refine jz_aald (t := 6) (dk dt_X10_part 17 rfl) e_9 k_9 (by decide) (by decide) p_31 q_31 hw ?_
          refine j_astore_n (dk dt_X10_part 18 rfl) (by decide) ?_
          refine j_aload_n (dk dt_X10_part 19 rfl) rfl ?_
          obtain ⟨a_34, e_34, k_34, H⟩ := H
          refine jz_getI (kz := 0) (dk dt_X10_part 20 rfl) fl_X10_96 rfl rfl e_34 k_34 ?_
          refine j_bipush (v := Int32.ofInt 14) (dk dt_X10_part 21 rfl) (by decide) ?_
          refine jz_icmp_ne 53 (dk dt_X10_part 22 rfl) (by decide) (hw.1 _ _) (by decide) H (fun H => ?_) (fun H => ?_)
          · refine j_aload_n (dk dt_X10_part 23 rfl) rfl ?_
            refine j_aload_n (dk dt_X10_part 24 rfl) rfl ?_
            refine jz_getO (kz := 2) (dk dt_X10_part 25 rfl) fl_X10_99 rfl rfl e_34 k_34 ?_
            refine jz_callV1 (dk dt_X10_part 26 rfl) vl_X10_100 rfl (T_X10_literal hw H) k_6 rfl (by omega) (Nat.zero_le _) (Nat.zero_le _) (Nat.le_of_ble_eq_true rfl) (fun v_47 h_47 P_47 => ?_)
            obtain ⟨z_47, rfl, rfl, w_47, H⟩ := P_47
            dsimp only [rs]
            refine j_goto 225 (dk dt_X10_part 27 rfl) (by decide) ?_
            exact j_el (T_X10_part_225  w_47 ih_X10_args ih_X10_part ih_X10_under  H) trivial
          · refine j_aload_n (dk dt_X10_part 28 rfl) rfl ?_
            refine jz_getI (kz := 0) (dk dt_X10_part 29 rfl) fl_X10_96 rfl rfl e_34 k_34 ?_
            refine j_bipush (v := Int32.ofInt 15) (dk dt_X10_part 30 rfl) (by decide) ?_
            refine jz_icmp_ne 69 (dk dt_X10_part 31 rfl) (by decide) (hw.1 _ _) (by decide) H (fun H => ?_) (fun H => ?_)
            · refine j_aload_n (dk dt_X10_part 32 rfl) rfl ?_
              refine jz_callV0 (dk dt_X10_part 33 rfl) vl_X10_102 rfl (T_X10_putReference hw H) k_6 rfl (by omega) (Nat.zero_le _) (Nat.zero_le _) (Nat.le_of_ble_eq_true rfl) (fun v_63 h_63 P_63 => ?_)
              obtain ⟨z_63, rfl, rfl, w_63, H⟩ := P_63
              dsimp only [rs]
              refine j_goto 225 (dk dt_X10_part 34 rfl) (by decide) ?_
              exact j_el (T_X10_part_225  w_63 ih_X10_args ih_X10_part ih_X10_under  H) trivial
            · refine j_aload_n (dk dt_X10_part 35 rfl) rfl ?_
              refine jz_callV0 (dk dt_X10_part 36 rfl) vl_X10_105 e_34 (T_X4_isPlace hw H) k_34 rfl (by omega) (Nat.zero_le _) (Nat.zero_le _) (Nat.le_of_ble_eq_true rfl) (fun v_70 h_70 P_70 => ?_)
              obtain ⟨x_70, rfl, r_70, rfl, H⟩ := P_70
              dsimp only [rs]
              refine jz_if_eq 84 (dk dt_X10_part 37 rfl) (by decide) r_70 H (fun H => ?_) (fun H => ?_)
              · refine j_aload_n (dk dt_X10_part 42 rfl) rfl ?_
                refine jz_getI (kz := 0) (dk dt_X10_part 43 rfl) fl_X10_96 rfl rfl e_34 k_34 ?_
                refine j_bipush (v := Int32.ofInt 13) (dk dt_X10_part 44 rfl) (by decide) ?_
                refine jz_icmp_ne 111 (dk dt_X10_part 45 rfl) (by decide) (hw.1 _ _) (by decide) H (fun H => ?_) (fun H => ?_)
                · refine j_aload_n (dk dt_X10_part 46 rfl) rfl ?_
                  refine j_bipush (v := Int32.ofInt 45) (dk dt_X10_part 47 rfl) (by decide) ?_
                  refine jz_callV1 (dk dt_X10_part 48 rfl) vl_X10_53 rfl (T_X10_put (by decide) hw H) k_6 rfl (by omega) (Nat.zero_le _) (Nat.zero_le _) (Nat.le_of_ble_eq_true rfl) (fun v_96 h_96 P_96 => ?_)
                  obtain ⟨z_96, rfl, rfl, w_96, H⟩ := P_96
                  dsimp only [rs]
                  refine j_aload_n (dk dt_X10_part 49 rfl) rfl ?_
                  refine j_iload_n (dk dt_X10_part 50 rfl) rfl ?_
                  refine j_iconst (v := Int32.ofInt 1) (dk dt_X10_part 51 rfl) (by decide) ?_
                  refine jz_isub (dk dt_X10_part 52 rfl) ?_
                  refine j_iconst (v := Int32.ofInt 5) (dk dt_X10_part 53 rfl) (by decide) ?_
                  refine j_iload_n (dk dt_X10_part 54 rfl) rfl ?_
                  obtain ⟨k_105, H⟩ := H
                  refine jz_callV3 (dk dt_X10_part 55 rfl) vl_X10_113 rfl (ih_X10_under (r32_w _) (by decide) r_x2 w_96 H) k_105 rfl (by omega) (Nat.zero_le _) (Nat.zero_le _) (Nat.le_of_ble_eq_true rfl) (fun v_105 h_105 P_105 => ?_)
                  obtain ⟨z_105, rfl, rfl, w_105, H⟩ := P_105
                  dsimp only [rs]
                  refine j_goto 225 (dk dt_X10_part 56 rfl) (by decide) ?_
                  exact j_el (T_X10_part_225  w_105 ih_X10_args ih_X10_part ih_X10_under  H) trivial
                · refine j_aload_n (dk dt_X10_part 57 rfl) rfl ?_
                  refine jz_getI (kz := 0) (dk dt_X10_part 58 rfl) fl_X10_96 rfl rfl e_34 k_34 ?_
                  refine j_bipush (v := Int32.ofInt 12) (dk dt_X10_part 59 rfl) (by decide) ?_
                  refine jz_icmp_gt 189 (dk dt_X10_part 60 rfl) (by decide) (hw.1 _ _) (by decide) H (fun H => ?_) (fun H => ?_)
                  · refine j_aload_n (dk dt_X10_part 104 rfl) rfl ?_
                    refine j_ldcS 4 rfl (dk dt_X10_part 105 rfl) rfl rfl ?_
                    refine j_aload_n (dk dt_X10_part 106 rfl) rfl ?_
                    refine jz_getI (kz := 0) (dk dt_X10_part 107 rfl) fl_X10_96 rfl rfl e_34 k_34 ?_
                    refine j_bipush (v := Int32.ofInt 18) (dk dt_X10_part 108 rfl) (by decide) ?_
                    refine jz_isub (dk dt_X10_part 109 rfl) ?_
                    refine j_bipush (v := Int32.ofInt 8) (dk dt_X10_part 110 rfl) (by decide) ?_
                    refine jz_imul (dk dt_X10_part 111 rfl) ?_
                    refine j_bipush (v := Int32.ofInt 8) (dk dt_X10_part 112 rfl) (by decide) ?_
                    refine jz_callV3 (dk dt_X10_part 113 rfl) vl_X10_123 rfl (T_X10_putWord (r32_w _) (by decide) hw H) k_6 rfl (by omega) (Nat.zero_le _) (Nat.zero_le _) (Nat.le_of_ble_eq_true rfl) (fun v_204 h_204 P_204 => ?_)
                    obtain ⟨z_204, rfl, rfl, w_204, H⟩ := P_204
                    dsimp only [rs]
                    refine j_aload_n (dk dt_X10_part 114 rfl) rfl ?_
                    refine j_bipush (v := Int32.ofInt 40) (dk dt_X10_part 115 rfl) (by decide) ?_
                    obtain ⟨k_210, H⟩ := H
                    refine jz_callV1 (dk dt_X10_part 116 rfl) vl_X10_53 rfl (T_X10_put (by decide) w_204 H) k_210 rfl (by omega) (Nat.zero_le _) (Nat.zero_le _) (Nat.le_of_ble_eq_true rfl) (fun v_210 h_210 P_210 => ?_)
                    obtain ⟨z_210, rfl, rfl, w_210, H⟩ := P_210
                    dsimp only [rs]
                    refine j_aload_n (dk dt_X10_part 117 rfl) rfl ?_
                    refine j_iload_n (dk dt_X10_part 118 rfl) rfl ?_
                    refine j_iload_n (dk dt_X10_part 119 rfl) rfl ?_
                    obtain ⟨k_216, H⟩ := H
                    refine jz_callV2 (dk dt_X10_part 120 rfl) vl_X10_129 rfl (ih_X10_args r_x1 r_x2 w_210 H) k_216 rfl (by omega) (Nat.zero_le _) (Nat.zero_le _) (Nat.le_of_ble_eq_true rfl) (fun v_216 h_216 P_216 => ?_)
                    obtain ⟨z_216, rfl, rfl, w_216, H⟩ := P_216
                    dsimp only [rs]
                    refine j_aload_n (dk dt_X10_part 121 rfl) rfl ?_
                    refine j_bipush (v := Int32.ofInt 41) (dk dt_X10_part 122 rfl) (by decide) ?_
                    obtain ⟨k_222, H⟩ := H
                    refine jz_callV1 (dk dt_X10_part 123 rfl) vl_X10_53 rfl (T_X10_put (by decide) w_216 H) k_222 rfl (by omega) (Nat.zero_le _) (Nat.zero_le _) (Nat.le_of_ble_eq_true rfl) (fun v_222 h_222 P_222 => ?_)
                    obtain ⟨z_222, rfl, rfl, w_222, H⟩ := P_222
                    dsimp only [rs]
                    exact j_el (T_X10_part_225  w_222 ih_X10_args ih_X10_part ih_X10_under  H) trivial
                  · refine j_aload_n (dk dt_X10_part 61 rfl) rfl ?_
                    refine jz_getI (kz := 0) (dk dt_X10_part 62 rfl) fl_X10_96 rfl rfl e_34 k_34 ?_
                    refine j_callSN1 (dk dt_X10_part 63 rfl) snl_X10_117 (T_X11_bindsOf (hw.1 _ _) H) rfl (by omega) (Nat.zero_le _) (Nat.zero_le _) (Nat.le_of_ble_eq_true rfl) (fun v_124 h_124 P_124 => ?_)
                    obtain ⟨x_124, rfl, r_124, rfl, H⟩ := P_124
                    dsimp only [rs]
                    refine j_istore (dk dt_X10_part 64 rfl) (by decide) ?_
                    refine j_aload_n (dk dt_X10_part 65 rfl) rfl ?_
                    refine j_aload_n (dk dt_X10_part 66 rfl) rfl ?_
                    refine jz_getO (kz := 1) (dk dt_X10_part 67 rfl) fl_X10_15 rfl rfl rfl k_6 ?_
                    refine j_iload_n (dk dt_X10_part 68 rfl) rfl ?_
                    refine j_iconst (v := Int32.ofInt 1) (dk dt_X10_part 69 rfl) (by decide) ?_
                    refine jz_isub (dk dt_X10_part 70 rfl) ?_
                    obtain ⟨a_137, e_137, k_137, H⟩ := H
                    obtain ⟨p_137, q_137, H⟩ := H
                    refine jz_iald (dk dt_X10_part 71 rfl) e_137 k_137 p_137 q_137 hw ?_
                    refine j_iconst (v := Int32.ofInt 1) (dk dt_X10_part 72 rfl) (by decide) ?_
                    refine jz_isub (dk dt_X10_part 73 rfl) ?_
                    refine j_iload (dk dt_X10_part 74 rfl) rfl ?_
                    refine j_iconst (v := Int32.ofInt 1) (dk dt_X10_part 75 rfl) (by decide) ?_
                    refine jz_icmp_ne 153 (dk dt_X10_part 76 rfl) (by decide) r_124 (by decide) H (fun H => ?_) (fun H => ?_)
                    · refine j_iload (dk dt_X10_part 77 rfl) rfl ?_
                      refine j_iconst (v := Int32.ofInt 1) (dk dt_X10_part 78 rfl) (by decide) ?_
                      refine jz_iadd (dk dt_X10_part 79 rfl) ?_
                      refine j_goto 155 (dk dt_X10_part 80 rfl) (by decide) ?_
                      exact j_el (T_X10_part_155 r_x1 r_x2 r_124 (r32_w _) (r32_w _) hw ih_X10_args ih_X10_part ih_X10_under  H) (And.intro rfl (And.intro rfl (And.intro rfl (And.intro rfl (And.intro rfl trivial)))))
                    · refine j_iload (dk dt_X10_part 81 rfl) rfl ?_
                      exact j_el (T_X10_part_155 r_x1 r_x2 r_124 (r32_w _) r_124 hw ih_X10_args ih_X10_part ih_X10_under  H) (And.intro rfl (And.intro rfl (And.intro rfl (And.intro rfl (And.intro rfl trivial)))))
              · refine j_aload_n (dk dt_X10_part 38 rfl) rfl ?_
                refine j_aload_n (dk dt_X10_part 39 rfl) rfl ?_
                refine jz_callV1 (dk dt_X10_part 40 rfl) vl_X10_109 rfl (T_X10_place hw H) k_6 rfl (by omega) (Nat.zero_le _) (Nat.zero_le _) (Nat.le_of_ble_eq_true rfl) (fun v_78 h_78 P_78 => ?_)
                obtain ⟨z_78, rfl, rfl, w_78, H⟩ := P_78
                dsimp only [rs]
                refine j_goto 225 (dk dt_X10_part 41 rfl) (by decide) ?_
                exact j_el (T_X10_part_225  w_78 ih_X10_args ih_X10_part ih_X10_under  H) trivial
        · exact j_el (T_X10_part_25  hw ih_X10_args ih_X10_part ih_X10_under  H) trivial
def F_X10_under_66 (R_X10_args : Nat → Int → Int → Z → (Z → Prop) → Prop) (R_X10_part : Nat → Int → Int → Z → (Z → Prop) → Prop) (R_X10_under : Nat → Int → Int → Int → Z → (Z → Prop) → Prop) (z : Z) (P : Z → Prop) : Prop :=
  P z
theorem T_X10_under_66 {n : Nat} {R_X10_args : Nat → Int → Int → Z → (Z → Prop) → Prop} {R_X10_part : Nat → Int → Int → Z → (Z → Prop) → Prop} {R_X10_under : Nat → Int → Int → Int → Z → (Z → Prop) → Prop} {z : Z} {P : Z → Prop}  (hw : Wz z) (ih_X10_args : ∀ {t0 : Nat} {x1 : Int} {x2 : Int} {z : Z} {P : Z → Prop}, R32 x1 → R32 x2 → Wz z → R_X10_args t0 x1 x2 z P → Con mX10_args (11 + n) 0 0 [vr (some t0), ii (x1), ii (x2)] (cz z) (QZV P)) (ih_X10_part : ∀ {t0 : Nat} {x1 : Int} {x2 : Int} {z : Z} {P : Z → Prop}, R32 x1 → R32 x2 → Wz z → R_X10_part t0 x1 x2 z P → Con mX10_part (11 + n) 0 0 [vr (some t0), ii (x1), ii (x2)] (cz z) (QZV P)) (ih_X10_under : ∀ {t0 : Nat} {x1 : Int} {x2 : Int} {x3 : Int} {z : Z} {P : Z → Prop}, R32 x1 → R32 x2 → R32 x3 → Wz z → R_X10_under t0 x1 x2 x3 z P → Con mX10_under (11 + n) 0 0 [vr (some t0), ii (x1), ii (x2), ii (x3)] (cz z) (QZV P))  (H : F_X10_under_66 R_X10_args R_X10_part R_X10_under z P) : J mX10_under (11 + n + 1) 0 0 (nx (QZV P)) 66 [none, none, none, none, none] [] (cz z) := by
  unfold F_X10_under_66 at H
  exact j_return (dk dt_X10_under 35 rfl) rfl ⟨_, rfl, rfl, hw, H⟩
def F_X10_under_47 (R_X10_args : Nat → Int → Int → Z → (Z → Prop) → Prop) (R_X10_part : Nat → Int → Int → Z → (Z → Prop) → Prop) (R_X10_under : Nat → Int → Int → Int → Z → (Z → Prop) → Prop) (t0 : Nat) (x1 : Int) (x3 : Int) (x4 : Int) (z : Z) (P : Z → Prop) : Prop :=
  (zK z t0 = 11 ∧ R_X10_part t0 x1 (w32 (x3 + 1)) z (fun z_52 => (if x4 = 0 then F_X10_under_66 R_X10_args R_X10_part R_X10_under z_52 P else (zK z_52 t0 = 11 ∧ F_X10_put t0 41 z_52 (fun z_63 => F_X10_under_66 R_X10_args R_X10_part R_X10_under z_63 P)))))
theorem T_X10_under_47 {n : Nat} {R_X10_args : Nat → Int → Int → Z → (Z → Prop) → Prop} {R_X10_part : Nat → Int → Int → Z → (Z → Prop) → Prop} {R_X10_under : Nat → Int → Int → Int → Z → (Z → Prop) → Prop} {t0 : Nat} {x1 : Int} {x3 : Int} {x4 : Int} {z : Z} {P : Z → Prop} (r_x1 : R32 x1) (r_x3 : R32 x3) (r_x4 : R32 x4) (hw : Wz z) (ih_X10_args : ∀ {t0 : Nat} {x1 : Int} {x2 : Int} {z : Z} {P : Z → Prop}, R32 x1 → R32 x2 → Wz z → R_X10_args t0 x1 x2 z P → Con mX10_args (11 + n) 0 0 [vr (some t0), ii (x1), ii (x2)] (cz z) (QZV P)) (ih_X10_part : ∀ {t0 : Nat} {x1 : Int} {x2 : Int} {z : Z} {P : Z → Prop}, R32 x1 → R32 x2 → Wz z → R_X10_part t0 x1 x2 z P → Con mX10_part (11 + n) 0 0 [vr (some t0), ii (x1), ii (x2)] (cz z) (QZV P)) (ih_X10_under : ∀ {t0 : Nat} {x1 : Int} {x2 : Int} {x3 : Int} {z : Z} {P : Z → Prop}, R32 x1 → R32 x2 → R32 x3 → Wz z → R_X10_under t0 x1 x2 x3 z P → Con mX10_under (11 + n) 0 0 [vr (some t0), ii (x1), ii (x2), ii (x3)] (cz z) (QZV P))  (H : F_X10_under_47 R_X10_args R_X10_part R_X10_under t0 x1 x3 x4 z P) : J mX10_under (11 + n + 1) 0 0 (nx (QZV P)) 47 [some (vr (some t0)), some (ii (x1)), none, some (ii (x3)), some (ii (x4))] [] (cz z) := by
  unfold F_X10_under_47 at H
  refine j_aload_n (dk dt_X10_under 24 rfl) rfl ?_
  refine j_iload_n (dk dt_X10_under 25 rfl) rfl ?_
  refine j_iload_n (dk dt_X10_under 26 rfl) rfl ?_
  refine j_iconst (v := Int32.ofInt 1) (dk dt_X10_under 27 rfl) (by decide) ?_
  refine jz_iadd (dk dt_X10_under 28 rfl) ?_
  obtain ⟨k_52, H⟩ := H
  refine jz_callV2 (dk dt_X10_under 29 rfl) vl_X10_56 rfl (ih_X10_part r_x1 (r32_w _) hw H) k_52 rfl (by omega) (Nat.zero_le _) (Nat.zero_le _) (Nat.le_of_ble_eq_true rfl) (fun v_52 h_52 P_52 => ?_)
  obtain ⟨z_52, rfl, rfl, w_52, H⟩ := P_52
  dsimp only [rs]
  refine j_iload (dk dt_X10_under 30 rfl) rfl ?_
  refine jz_if_eq 66 (dk dt_X10_under 31 rfl) (by decide) r_x4 H (fun H => ?_) (fun H => ?_)
  · exact j_el (T_X10_under_66  w_52 ih_X10_args ih_X10_part ih_X10_under  H) trivial
  · refine j_aload_n (dk dt_X10_under 32 rfl) rfl ?_
    refine j_bipush (v := Int32.ofInt 41) (dk dt_X10_under 33 rfl) (by decide) ?_
    obtain ⟨k_63, H⟩ := H
    refine jz_callV1 (dk dt_X10_under 34 rfl) vl_X10_53 rfl (T_X10_put (by decide) w_52 H) k_63 rfl (by omega) (Nat.zero_le _) (Nat.zero_le _) (Nat.le_of_ble_eq_true rfl) (fun v_63 h_63 P_63 => ?_)
    obtain ⟨z_63, rfl, rfl, w_63, H⟩ := P_63
    dsimp only [rs]
    exact j_el (T_X10_under_66  w_63 ih_X10_args ih_X10_part ih_X10_under  H) trivial
def F_X10_under_34 (R_X10_args : Nat → Int → Int → Z → (Z → Prop) → Prop) (R_X10_part : Nat → Int → Int → Z → (Z → Prop) → Prop) (R_X10_under : Nat → Int → Int → Int → Z → (Z → Prop) → Prop) (t0 : Nat) (x1 : Int) (x3 : Int) (s0 : Int) (z : Z) (P : Z → Prop) : Prop :=
  (if s0 = 0 then F_X10_under_47 R_X10_args R_X10_part R_X10_under t0 x1 x3 s0 z P else (zK z t0 = 11 ∧ F_X10_put t0 40 z (fun z_44 => F_X10_under_47 R_X10_args R_X10_part R_X10_under t0 x1 x3 s0 z_44 P)))
theorem T_X10_under_34 {n : Nat} {R_X10_args : Nat → Int → Int → Z → (Z → Prop) → Prop} {R_X10_part : Nat → Int → Int → Z → (Z → Prop) → Prop} {R_X10_under : Nat → Int → Int → Int → Z → (Z → Prop) → Prop} {t0 : Nat} {x1 : Int} {x3 : Int} {s0 : Int} {z : Z} {P : Z → Prop} (r_x1 : R32 x1) (r_x3 : R32 x3) (r_s0 : R32 s0) (hw : Wz z) (ih_X10_args : ∀ {t0 : Nat} {x1 : Int} {x2 : Int} {z : Z} {P : Z → Prop}, R32 x1 → R32 x2 → Wz z → R_X10_args t0 x1 x2 z P → Con mX10_args (11 + n) 0 0 [vr (some t0), ii (x1), ii (x2)] (cz z) (QZV P)) (ih_X10_part : ∀ {t0 : Nat} {x1 : Int} {x2 : Int} {z : Z} {P : Z → Prop}, R32 x1 → R32 x2 → Wz z → R_X10_part t0 x1 x2 z P → Con mX10_part (11 + n) 0 0 [vr (some t0), ii (x1), ii (x2)] (cz z) (QZV P)) (ih_X10_under : ∀ {t0 : Nat} {x1 : Int} {x2 : Int} {x3 : Int} {z : Z} {P : Z → Prop}, R32 x1 → R32 x2 → R32 x3 → Wz z → R_X10_under t0 x1 x2 x3 z P → Con mX10_under (11 + n) 0 0 [vr (some t0), ii (x1), ii (x2), ii (x3)] (cz z) (QZV P))  (H : F_X10_under_34 R_X10_args R_X10_part R_X10_under t0 x1 x3 s0 z P) : J mX10_under (11 + n + 1) 0 0 (nx (QZV P)) 34 [some (vr (some t0)), some (ii (x1)), none, some (ii (x3)), none] [ii (s0)] (cz z) := by
  unfold F_X10_under_34 at H
  refine j_istore (dk dt_X10_under 18 rfl) (by decide) ?_
  refine j_iload (dk dt_X10_under 19 rfl) rfl ?_
  refine jz_if_eq 47 (dk dt_X10_under 20 rfl) (by decide) r_s0 H (fun H => ?_) (fun H => ?_)
  · exact j_el (T_X10_under_47 r_x1 r_x3 r_s0 hw ih_X10_args ih_X10_part ih_X10_under  H) (And.intro rfl (And.intro rfl (And.intro rfl (And.intro rfl trivial))))
  · refine j_aload_n (dk dt_X10_under 21 rfl) rfl ?_
    refine j_bipush (v := Int32.ofInt 40) (dk dt_X10_under 22 rfl) (by decide) ?_
    obtain ⟨k_44, H⟩ := H
    refine jz_callV1 (dk dt_X10_under 23 rfl) vl_X10_53 rfl (T_X10_put (by decide) hw H) k_44 rfl (by omega) (Nat.zero_le _) (Nat.zero_le _) (Nat.le_of_ble_eq_true rfl) (fun v_44 h_44 P_44 => ?_)
    obtain ⟨z_44, rfl, rfl, w_44, H⟩ := P_44
    dsimp only [rs]
    exact j_el (T_X10_under_47 r_x1 r_x3 r_s0 w_44 ih_X10_args ih_X10_part ih_X10_under  H) (And.intro rfl (And.intro rfl (And.intro rfl (And.intro rfl trivial))))
def F_X10_under_33 (R_X10_args : Nat → Int → Int → Z → (Z → Prop) → Prop) (R_X10_part : Nat → Int → Int → Z → (Z → Prop) → Prop) (R_X10_under : Nat → Int → Int → Int → Z → (Z → Prop) → Prop) (t0 : Nat) (x1 : Int) (x3 : Int) (z : Z) (P : Z → Prop) : Prop :=
  F_X10_under_34 R_X10_args R_X10_part R_X10_under t0 x1 x3 0 z P
theorem T_X10_under_33 {n : Nat} {R_X10_args : Nat → Int → Int → Z → (Z → Prop) → Prop} {R_X10_part : Nat → Int → Int → Z → (Z → Prop) → Prop} {R_X10_under : Nat → Int → Int → Int → Z → (Z → Prop) → Prop} {t0 : Nat} {x1 : Int} {x3 : Int} {z : Z} {P : Z → Prop} (r_x1 : R32 x1) (r_x3 : R32 x3) (hw : Wz z) (ih_X10_args : ∀ {t0 : Nat} {x1 : Int} {x2 : Int} {z : Z} {P : Z → Prop}, R32 x1 → R32 x2 → Wz z → R_X10_args t0 x1 x2 z P → Con mX10_args (11 + n) 0 0 [vr (some t0), ii (x1), ii (x2)] (cz z) (QZV P)) (ih_X10_part : ∀ {t0 : Nat} {x1 : Int} {x2 : Int} {z : Z} {P : Z → Prop}, R32 x1 → R32 x2 → Wz z → R_X10_part t0 x1 x2 z P → Con mX10_part (11 + n) 0 0 [vr (some t0), ii (x1), ii (x2)] (cz z) (QZV P)) (ih_X10_under : ∀ {t0 : Nat} {x1 : Int} {x2 : Int} {x3 : Int} {z : Z} {P : Z → Prop}, R32 x1 → R32 x2 → R32 x3 → Wz z → R_X10_under t0 x1 x2 x3 z P → Con mX10_under (11 + n) 0 0 [vr (some t0), ii (x1), ii (x2), ii (x3)] (cz z) (QZV P))  (H : F_X10_under_33 R_X10_args R_X10_part R_X10_under t0 x1 x3 z P) : J mX10_under (11 + n + 1) 0 0 (nx (QZV P)) 33 [some (vr (some t0)), some (ii (x1)), none, some (ii (x3)), none] [] (cz z) := by
  unfold F_X10_under_33 at H
  refine j_iconst (v := Int32.ofInt 0) (dk dt_X10_under 17 rfl) (by decide) ?_
  exact j_el (T_X10_under_34 r_x1 r_x3 (by decide) hw ih_X10_args ih_X10_part ih_X10_under  H) (And.intro rfl (And.intro rfl (And.intro rfl trivial)))
def B_X10_under (R_X10_args : Nat → Int → Int → Z → (Z → Prop) → Prop) (R_X10_part : Nat → Int → Int → Z → (Z → Prop) → Prop) (R_X10_under : Nat → Int → Int → Int → Z → (Z → Prop) → Prop) (t0 : Nat) (x1 : Int) (x2 : Int) (x3 : Int) (z : Z) (P : Z → Prop) : Prop :=
  (if x1 < 0 then F_X10_under_33 R_X10_args R_X10_part R_X10_under t0 x1 x3 z P else (zK z t0 = 11 ∧ (∃ a_9, zO z t0 4 = some a_9 ∧ zK z a_9 = 20 ∧ (if zN z a_9 ≤ x1 then F_X10_under_33 R_X10_args R_X10_part R_X10_under t0 x1 x3 z P else (0 ≤ x1 ∧ x1 < zN z a_9 ∧ (∃ a_19, zO z a_9 x1 = some a_19 ∧ zK z a_19 = 5 ∧ F_X11_bindsOf (zI z a_19 0) (fun x_22 => (if x2 ≤ x_22 then F_X10_under_33 R_X10_args R_X10_part R_X10_under t0 x1 x3 z P else F_X10_under_34 R_X10_args R_X10_part R_X10_under t0 x1 x3 1 z P))))))))
theorem V_X10_under {n : Nat} {R_X10_args : Nat → Int → Int → Z → (Z → Prop) → Prop} {R_X10_part : Nat → Int → Int → Z → (Z → Prop) → Prop} {R_X10_under : Nat → Int → Int → Int → Z → (Z → Prop) → Prop} {t0 : Nat} {x1 : Int} {x2 : Int} {x3 : Int} {z : Z} {P : Z → Prop} (r_x1 : R32 x1) (r_x2 : R32 x2) (r_x3 : R32 x3) (hw : Wz z) (ih_X10_args : ∀ {t0 : Nat} {x1 : Int} {x2 : Int} {z : Z} {P : Z → Prop}, R32 x1 → R32 x2 → Wz z → R_X10_args t0 x1 x2 z P → Con mX10_args (11 + n) 0 0 [vr (some t0), ii (x1), ii (x2)] (cz z) (QZV P)) (ih_X10_part : ∀ {t0 : Nat} {x1 : Int} {x2 : Int} {z : Z} {P : Z → Prop}, R32 x1 → R32 x2 → Wz z → R_X10_part t0 x1 x2 z P → Con mX10_part (11 + n) 0 0 [vr (some t0), ii (x1), ii (x2)] (cz z) (QZV P)) (ih_X10_under : ∀ {t0 : Nat} {x1 : Int} {x2 : Int} {x3 : Int} {z : Z} {P : Z → Prop}, R32 x1 → R32 x2 → R32 x3 → Wz z → R_X10_under t0 x1 x2 x3 z P → Con mX10_under (11 + n) 0 0 [vr (some t0), ii (x1), ii (x2), ii (x3)] (cz z) (QZV P)) (H : B_X10_under R_X10_args R_X10_part R_X10_under t0 x1 x2 x3 z P) : Con mX10_under (11 + n + 1) 0 0 [vr (some t0), ii (x1), ii (x2), ii (x3)] (cz z) (QZV P) := by
  refine con_of rfl (Nat.le_of_ble_eq_true rfl) (by decide) ?_
  show J mX10_under (11 + n + 1) 0 0 _ 0 [some (vr (some t0)), some (ii (x1)), some (ii (x2)), some (ii (x3)), none] [] (cz z)
  unfold B_X10_under at H
  refine j_iload_n (dk dt_X10_under 0 rfl) rfl ?_
  refine jz_if_lt 33 (dk dt_X10_under 1 rfl) (by decide) r_x1 H (fun H => ?_) (fun H => ?_)
  · exact j_el (T_X10_under_33 r_x1 r_x3 hw ih_X10_args ih_X10_part ih_X10_under  H) (And.intro rfl (And.intro rfl (And.intro rfl trivial)))
  · refine j_iload_n (dk dt_X10_under 2 rfl) rfl ?_
    refine j_aload_n (dk dt_X10_under 3 rfl) rfl ?_
    obtain ⟨k_6, H⟩ := H
    refine jz_getO (kz := 4) (dk dt_X10_under 4 rfl) fl_X10_49 rfl rfl rfl k_6 ?_
    obtain ⟨a_9, e_9, k_9, H⟩ := H
    refine jz_alen (t := 6) (dk dt_X10_under 5 rfl) e_9 k_9 (by decide) hw ?_
    refine jz_icmp_ge 33 (dk dt_X10_under 6 rfl) (by decide) r_x1 (r32_len hw _) H (fun H => ?_) (fun H => ?_)
    · exact j_el (T_X10_under_33 r_x1 r_x3 hw ih_X10_args ih_X10_part ih_X10_under  H) (And.intro rfl (And.intro rfl (And.intro rfl trivial)))
    · refine j_aload_n (dk dt_X10_under 7 rfl) rfl ?_
      refine jz_getO (kz := 4) (dk dt_X10_under 8 rfl) fl_X10_49 rfl rfl rfl k_6 ?_
      refine j_iload_n (dk dt_X10_under 9 rfl) rfl ?_
      obtain ⟨p_18, q_18, H⟩ := H
      refine jz_aald (t := 6) (dk dt_X10_under 10 rfl) e_9 k_9 (by decide) (by decide) p_18 q_18 hw ?_
      obtain ⟨a_19, e_19, k_19, H⟩ := H
      refine jz_getI (kz := 0) (dk dt_X10_under 11 rfl) fl_X10_96 rfl rfl e_19 k_19 ?_
      refine j_callSN1 (dk dt_X10_under 12 rfl) snl_X10_117 (T_X11_bindsOf (hw.1 _ _) H) rfl (by omega) (Nat.zero_le _) (Nat.zero_le _) (Nat.le_of_ble_eq_true rfl) (fun v_22 h_22 P_22 => ?_)
      obtain ⟨x_22, rfl, r_22, rfl, H⟩ := P_22
      dsimp only [rs]
      refine j_iload_n (dk dt_X10_under 13 rfl) rfl ?_
      refine jz_icmp_ge 33 (dk dt_X10_under 14 rfl) (by decide) r_22 r_x2 H (fun H => ?_) (fun H => ?_)
      · exact j_el (T_X10_under_33 r_x1 r_x3 hw ih_X10_args ih_X10_part ih_X10_under  H) (And.intro rfl (And.intro rfl (And.intro rfl trivial)))
      · refine j_iconst (v := Int32.ofInt 1) (dk dt_X10_under 15 rfl) (by decide) ?_
        refine j_goto 34 (dk dt_X10_under 16 rfl) (by decide) ?_
        exact j_el (T_X10_under_34 r_x1 r_x3 (by decide) hw ih_X10_args ih_X10_part ih_X10_under  H) (And.intro rfl (And.intro rfl (And.intro rfl trivial)))
def RG_X10_args : Nat → (Nat → Int → Int → Z → (Z → Prop) → Prop) × (Nat → Int → Int → Z → (Z → Prop) → Prop) × (Nat → Int → Int → Int → Z → (Z → Prop) → Prop)
  | 0 => ((fun _ _ _ _ _ => False), (fun _ _ _ _ _ => False), (fun _ _ _ _ _ _ => False))
  | n + 1 => (B_X10_args ((RG_X10_args n).1) ((RG_X10_args n).2.1) ((RG_X10_args n).2.2), B_X10_part ((RG_X10_args n).1) ((RG_X10_args n).2.1) ((RG_X10_args n).2.2), B_X10_under ((RG_X10_args n).1) ((RG_X10_args n).2.1) ((RG_X10_args n).2.2))
theorem RT_X10_args : ∀ n : Nat, (∀ {t0 : Nat} {x1 : Int} {x2 : Int} {z : Z} {P : Z → Prop}, R32 x1 → R32 x2 → Wz z → (RG_X10_args n).1 t0 x1 x2 z P → Con mX10_args (11 + n) 0 0 [vr (some t0), ii (x1), ii (x2)] (cz z) (QZV P)) ∧ (∀ {t0 : Nat} {x1 : Int} {x2 : Int} {z : Z} {P : Z → Prop}, R32 x1 → R32 x2 → Wz z → (RG_X10_args n).2.1 t0 x1 x2 z P → Con mX10_part (11 + n) 0 0 [vr (some t0), ii (x1), ii (x2)] (cz z) (QZV P)) ∧ (∀ {t0 : Nat} {x1 : Int} {x2 : Int} {x3 : Int} {z : Z} {P : Z → Prop}, R32 x1 → R32 x2 → R32 x3 → Wz z → (RG_X10_args n).2.2 t0 x1 x2 x3 z P → Con mX10_under (11 + n) 0 0 [vr (some t0), ii (x1), ii (x2), ii (x3)] (cz z) (QZV P)) := by
  intro n
  induction n with
  | zero => exact ⟨fun _ _ _ H => (show False from H).elim, fun _ _ _ H => (show False from H).elim, fun _ _ _ _ H => (show False from H).elim⟩
  | succ n ih => exact ⟨fun a0 a1 w H => V_X10_args a0 a1 w ih.1 ih.2.1 ih.2.2 H, fun a0 a1 w H => V_X10_part a0 a1 w ih.1 ih.2.1 ih.2.2 H, fun a0 a1 a2 w H => V_X10_under a0 a1 a2 w ih.1 ih.2.1 ih.2.2 H⟩
def F_X10_args (n : Nat) (t0 : Nat) (x1 : Int) (x2 : Int) (z : Z) (P : Z → Prop) : Prop := (RG_X10_args n).1 t0 x1 x2 z P
def F_X10_part (n : Nat) (t0 : Nat) (x1 : Int) (x2 : Int) (z : Z) (P : Z → Prop) : Prop := (RG_X10_args n).2.1 t0 x1 x2 z P
def F_X10_under (n : Nat) (t0 : Nat) (x1 : Int) (x2 : Int) (x3 : Int) (z : Z) (P : Z → Prop) : Prop := (RG_X10_args n).2.2 t0 x1 x2 x3 z P
theorem F_X10_args_s (n : Nat) (t0 : Nat) (x1 : Int) (x2 : Int) (z : Z) (P : Z → Prop) : F_X10_args (n + 1) t0 x1 x2 z P = B_X10_args (F_X10_args n) (F_X10_part n) (F_X10_under n) t0 x1 x2 z P := rfl
theorem T_X10_args {n : Nat} {t0 : Nat} {x1 : Int} {x2 : Int} {z : Z} {P : Z → Prop} (r_x1 : R32 x1) (r_x2 : R32 x2) (hw : Wz z) (H : F_X10_args n t0 x1 x2 z P) : Con mX10_args (11 + n) 0 0 [vr (some t0), ii (x1), ii (x2)] (cz z) (QZV P) := (RT_X10_args n).1 r_x1 r_x2 hw H
theorem F_X10_part_s (n : Nat) (t0 : Nat) (x1 : Int) (x2 : Int) (z : Z) (P : Z → Prop) : F_X10_part (n + 1) t0 x1 x2 z P = B_X10_part (F_X10_args n) (F_X10_part n) (F_X10_under n) t0 x1 x2 z P := rfl
theorem T_X10_part {n : Nat} {t0 : Nat} {x1 : Int} {x2 : Int} {z : Z} {P : Z → Prop} (r_x1 : R32 x1) (r_x2 : R32 x2) (hw : Wz z) (H : F_X10_part n t0 x1 x2 z P) : Con mX10_part (11 + n) 0 0 [vr (some t0), ii (x1), ii (x2)] (cz z) (QZV P) := (RT_X10_args n).2.1 r_x1 r_x2 hw H
theorem F_X10_under_s (n : Nat) (t0 : Nat) (x1 : Int) (x2 : Int) (x3 : Int) (z : Z) (P : Z → Prop) : F_X10_under (n + 1) t0 x1 x2 x3 z P = B_X10_under (F_X10_args n) (F_X10_part n) (F_X10_under n) t0 x1 x2 x3 z P := rfl
theorem T_X10_under {n : Nat} {t0 : Nat} {x1 : Int} {x2 : Int} {x3 : Int} {z : Z} {P : Z → Prop} (r_x1 : R32 x1) (r_x2 : R32 x2) (r_x3 : R32 x3) (hw : Wz z) (H : F_X10_under n t0 x1 x2 x3 z P) : Con mX10_under (11 + n) 0 0 [vr (some t0), ii (x1), ii (x2), ii (x3)] (cz z) (QZV P) := (RT_X10_args n).2.2 r_x1 r_x2 r_x3 hw H
def F_X11_isDigit_17  (s0 : Int) (P : Int → Prop) : Prop :=
  (Z1 s0 ∧ P s0)
theorem T_X11_isDigit_17  {s0 : Int} {P : Int → Prop} {h : Hp} (r_s0 : R32 s0)    (H : F_X11_isDigit_17 s0 P) : J mX11_isDigit 1 0 0 (nx (QPI h P)) 17 [none] [ii (s0)] h := by
  unfold F_X11_isDigit_17 at H
  obtain ⟨hz_, H⟩ := H
  exact j_ireturn (dk dt_X11_isDigit 9 rfl) rfl (nar_z hz_) ⟨_, rfl, r_s0, rfl, H⟩
def F_X11_isDigit_16  (P : Int → Prop) : Prop :=
  F_X11_isDigit_17 0 P
theorem T_X11_isDigit_16  {P : Int → Prop} {h : Hp}     (H : F_X11_isDigit_16 P) : J mX11_isDigit 1 0 0 (nx (QPI h P)) 16 [none] [] h := by
  unfold F_X11_isDigit_16 at H
  refine j_iconst (v := Int32.ofInt 0) (dk dt_X11_isDigit 8 rfl) (by decide) ?_
  exact j_el (T_X11_isDigit_17 (by decide)    H) trivial
def F_X11_isDigit  (x0 : Int) (P : Int → Prop) : Prop :=
  (if x0 < 48 then F_X11_isDigit_16  P else (if 57 < x0 then F_X11_isDigit_16  P else F_X11_isDigit_17 1 P))
theorem T_X11_isDigit  {x0 : Int} {P : Int → Prop} {h : Hp} (r_x0 : R32 x0)   (H : F_X11_isDigit x0 P) : Con mX11_isDigit 1 0 0 [ii (x0)] h (QPI h P) := by
  refine con_of rfl (Nat.le_of_ble_eq_true rfl) (by decide) ?_
  show J mX11_isDigit 1 0 0 _ 0 [some (ii (x0))] [] h
  unfold F_X11_isDigit at H
  refine j_iload_n (dk dt_X11_isDigit 0 rfl) rfl ?_
  refine j_bipush (v := Int32.ofInt 48) (dk dt_X11_isDigit 1 rfl) (by decide) ?_
  refine jz_icmp_lt 16 (dk dt_X11_isDigit 2 rfl) (by decide) r_x0 (by decide) H (fun H => ?_) (fun H => ?_)
  · exact j_el (T_X11_isDigit_16     H) trivial
  · refine j_iload_n (dk dt_X11_isDigit 3 rfl) rfl ?_
    refine j_bipush (v := Int32.ofInt 57) (dk dt_X11_isDigit 4 rfl) (by decide) ?_
    refine jz_icmp_gt 16 (dk dt_X11_isDigit 5 rfl) (by decide) r_x0 (by decide) H (fun H => ?_) (fun H => ?_)
    · exact j_el (T_X11_isDigit_16     H) trivial
    · refine j_iconst (v := Int32.ofInt 1) (dk dt_X11_isDigit 6 rfl) (by decide) ?_
      refine j_goto 17 (dk dt_X11_isDigit 7 rfl) (by decide) ?_
      exact j_el (T_X11_isDigit_17 (by decide)    H) trivial
def F_X11_isNumber_42  (z : Z) (P : Int → Prop) : Prop :=
  P 0
theorem T_X11_isNumber_42  {z : Z} {P : Int → Prop}  (hw : Wz z)   (H : F_X11_isNumber_42 z P) : J mX11_isNumber 2 0 0 (nx (QPI (cz z) P)) 42 [none, none, none, none, none] [] (cz z) := by
  unfold F_X11_isNumber_42 at H
  refine j_iconst (v := Int32.ofInt 0) (dk dt_X11_isNumber 28 rfl) (by decide) ?_
  exact j_ireturn (dk dt_X11_isNumber 29 rfl) rfl (nar_z (by decide)) ⟨_, rfl, (by decide), rfl, H⟩
def L_X11_isNumber_47  (x0 : Option Nat) (x2 : Int) (x4 : Int) (z : Z) (P : Int ⊕ ((Unit) ⊕ (Unit)) → Prop) : Prop :=
  (if x2 ≤ x4 then P (.inr (.inl ())) else (∃ a_56, x0 = some a_56 ∧ zK z a_56 = 14 ∧ (if zN z a_56 ≤ x4 then P (.inr (.inl ())) else (0 ≤ x4 ∧ x4 < zN z a_56 ∧ F_X11_isDigit (zI z a_56 x4) (fun x_64 => (if x_64 = 0 then P (.inr (.inr ())) else P (.inl (w32 (x4 + 1)))))))))
theorem U_X11_isNumber_47  {x0 : Option Nat} {x2 : Int} {x4 : Int} {z : Z} {P : Int ⊕ ((Unit) ⊕ (Unit)) → Prop} {post : Option Sv ⊕ String → Hp → Prop} (r_x2 : R32 x2) (r_x4 : R32 x4) (hw : Wz z)  (hl : ∀ (x4 : Int), P (.inl x4) → R32 x4 → J mX11_isNumber 2 0 0 post 47 [some (vr (x0)), none, some (ii (x2)), none, some (ii (x4))] [] (cz z)) (he0 : P (.inr (.inl ())) → J mX11_isNumber 2 0 0 post 78 [none, none, none, none, none] [] (cz z)) (he1 : P (.inr (.inr ())) → J mX11_isNumber 2 0 0 post 70 [none, none, none, none, none] [] (cz z)) (H : L_X11_isNumber_47 x0 x2 x4 z P) : J mX11_isNumber 2 0 0 post 47 [some (vr (x0)), none, some (ii (x2)), none, some (ii (x4))] [] (cz z) := by
  unfold L_X11_isNumber_47 at H
  refine j_iload (dk dt_X11_isNumber 32 rfl) rfl ?_
  refine j_iload_n (dk dt_X11_isNumber 33 rfl) rfl ?_
  refine jz_icmp_ge 78 (dk dt_X11_isNumber 34 rfl) (by decide) r_x4 r_x2 H (fun H => ?_) (fun H => ?_)
  · exact j_el (he0  H ) trivial
  · refine j_iload (dk dt_X11_isNumber 35 rfl) rfl ?_
    refine j_aload_n (dk dt_X11_isNumber 36 rfl) rfl ?_
    obtain ⟨a_56, e_56, k_56, H⟩ := H
    refine jz_alen (t := 0) (dk dt_X11_isNumber 37 rfl) e_56 k_56 (by decide) hw ?_
    refine jz_icmp_ge 78 (dk dt_X11_isNumber 38 rfl) (by decide) r_x4 (r32_len hw _) H (fun H => ?_) (fun H => ?_)
    · exact j_el (he0  H ) trivial
    · refine j_aload_n (dk dt_X11_isNumber 39 rfl) rfl ?_
      refine j_iload (dk dt_X11_isNumber 40 rfl) rfl ?_
      obtain ⟨p_63, q_63, H⟩ := H
      refine jz_bald (dk dt_X11_isNumber 41 rfl) e_56 k_56 p_63 q_63 hw ?_
      refine j_callS1 (dk dt_X11_isNumber 42 rfl) sl_X11_379 (T_X11_isDigit (hw.1 _ _) H) rfl (by decide) (Nat.zero_le _) (Nat.zero_le _) (Nat.le_of_ble_eq_true rfl) (fun v_64 h_64 P_64 => ?_)
      obtain ⟨x_64, rfl, r_64, rfl, H⟩ := P_64
      dsimp only [rs]
      refine jz_if_ne 72 (dk dt_X11_isNumber 43 rfl) (by decide) r_64 H (fun H => ?_) (fun H => ?_)
      · exact j_el (he1  H ) trivial
      · refine jz_iinc (dk dt_X11_isNumber 46 rfl) rfl ?_
        refine j_goto 47 (dk dt_X11_isNumber 47 rfl) (by decide) ?_
        exact j_el (hl _ H (r32_w _)) (And.intro rfl (And.intro rfl (And.intro rfl trivial)))
def F_X11_isNumber_78  (z : Z) (P : Int → Prop) : Prop :=
  P 1
theorem T_X11_isNumber_78  {z : Z} {P : Int → Prop}  (hw : Wz z)   (H : F_X11_isNumber_78 z P) : J mX11_isNumber 2 0 0 (nx (QPI (cz z) P)) 78 [none, none, none, none, none] [] (cz z) := by
  unfold F_X11_isNumber_78 at H
  refine j_iconst (v := Int32.ofInt 1) (dk dt_X11_isNumber 48 rfl) (by decide) ?_
  exact j_ireturn (dk dt_X11_isNumber 49 rfl) rfl (nar_z (by decide)) ⟨_, rfl, (by decide), rfl, H⟩
def F_X11_isNumber_47  (x0 : Option Nat) (x2 : Int) (x4 : Int) (z : Z) (P : Int → Prop) : Prop :=
  lp (S := Int) (E := (Unit) ⊕ (Unit)) (fun q P_ => L_X11_isNumber_47 x0 x2 q z P_) x4 (fun e => match e with | (.inl _) => F_X11_isNumber_78 z P | (.inr _) => P 0)
theorem T_X11_isNumber_47  {x0 : Option Nat} {x2 : Int} {x4 : Int} {z : Z} {P : Int → Prop} (r_x2 : R32 x2) (r_x4 : R32 x4) (hw : Wz z)   (H : F_X11_isNumber_47 x0 x2 x4 z P) : J mX11_isNumber 2 0 0 (nx (QPI (cz z) P)) 47 [some (vr (x0)), none, some (ii (x2)), none, some (ii (x4))] [] (cz z) := by
  unfold F_X11_isNumber_47 at H
  refine lp_J (G := fun q => R32 (q) → J mX11_isNumber 2 0 0 (nx (QPI (cz z) P)) 47 [some (vr (x0)), none, some (ii (x2)), none, some (ii ((q)))] [] (cz z)) (fun x4 P_ hl_ he_ Hb => ?_) x4 H r_x4
  intro r_x4
  refine U_X11_isNumber_47 (P := P_) r_x2 r_x4 hw  (fun x4 Hp r_x4 => hl_ x4 Hp r_x4) ?_ ?_ Hb
  · intro Hp
    have H := he_ _ Hp
    exact j_el (T_X11_isNumber_78  hw   H) trivial
  · intro Hp
    have H := he_ _ Hp
    refine j_iconst (v := Int32.ofInt 0) (dk dt_X11_isNumber 44 rfl) (by decide) ?_
    exact j_ireturn (dk dt_X11_isNumber 45 rfl) rfl (nar_z (by decide)) ⟨_, rfl, (by decide), rfl, H⟩
def F_X11_isNumber_26  (x0 : Option Nat) (x2 : Int) (s0 : Int) (z : Z) (P : Int → Prop) : Prop :=
  (if w32 (x2 - s0) < 1 then F_X11_isNumber_42 z P else (if w32 (x2 - s0) ≤ 15 then F_X11_isNumber_47 x0 x2 s0 z P else F_X11_isNumber_42 z P))
theorem T_X11_isNumber_26  {x0 : Option Nat} {x2 : Int} {s0 : Int} {z : Z} {P : Int → Prop} (r_x2 : R32 x2) (r_s0 : R32 s0) (hw : Wz z)   (H : F_X11_isNumber_26 x0 x2 s0 z P) : J mX11_isNumber 2 0 0 (nx (QPI (cz z) P)) 26 [some (vr (x0)), none, some (ii (x2)), none, none] [ii (s0)] (cz z) := by
  unfold F_X11_isNumber_26 at H
  refine j_istore_n (dk dt_X11_isNumber 17 rfl) (by decide) ?_
  refine j_iload_n (dk dt_X11_isNumber 18 rfl) rfl ?_
  refine j_iload_n (dk dt_X11_isNumber 19 rfl) rfl ?_
  refine jz_isub (dk dt_X11_isNumber 20 rfl) ?_
  refine j_iconst (v := Int32.ofInt 1) (dk dt_X11_isNumber 21 rfl) (by decide) ?_
  refine jz_icmp_lt 42 (dk dt_X11_isNumber 22 rfl) (by decide) (r32_w _) (by decide) H (fun H => ?_) (fun H => ?_)
  · exact j_el (T_X11_isNumber_42  hw   H) trivial
  · refine j_iload_n (dk dt_X11_isNumber 23 rfl) rfl ?_
    refine j_iload_n (dk dt_X11_isNumber 24 rfl) rfl ?_
    refine jz_isub (dk dt_X11_isNumber 25 rfl) ?_
    refine j_bipush (v := Int32.ofInt 15) (dk dt_X11_isNumber 26 rfl) (by decide) ?_
    refine jz_icmp_le 44 (dk dt_X11_isNumber 27 rfl) (by decide) (r32_w _) (by decide) H (fun H => ?_) (fun H => ?_)
    · refine j_iload_n (dk dt_X11_isNumber 30 rfl) rfl ?_
      refine j_istore (dk dt_X11_isNumber 31 rfl) (by decide) ?_
      exact j_el (T_X11_isNumber_47 r_x2 r_s0 hw   H) (And.intro rfl (And.intro rfl (And.intro rfl trivial)))
    · exact j_el (T_X11_isNumber_42  hw   H) trivial
def F_X11_isNumber_25  (x0 : Option Nat) (x1 : Int) (x2 : Int) (z : Z) (P : Int → Prop) : Prop :=
  F_X11_isNumber_26 x0 x2 x1 z P
theorem T_X11_isNumber_25  {x0 : Option Nat} {x1 : Int} {x2 : Int} {z : Z} {P : Int → Prop} (r_x1 : R32 x1) (r_x2 : R32 x2) (hw : Wz z)   (H : F_X11_isNumber_25 x0 x1 x2 z P) : J mX11_isNumber 2 0 0 (nx (QPI (cz z) P)) 25 [some (vr (x0)), some (ii (x1)), some (ii (x2)), none, none] [] (cz z) := by
  unfold F_X11_isNumber_25 at H
  refine j_iload_n (dk dt_X11_isNumber 16 rfl) rfl ?_
  exact j_el (T_X11_isNumber_26 r_x2 r_x1 hw   H) (And.intro rfl (And.intro rfl trivial))
def F_X11_isNumber  (x0 : Option Nat) (x1 : Int) (x2 : Int) (z : Z) (P : Int → Prop) : Prop :=
  (if x2 ≤ x1 then F_X11_isNumber_25 x0 x1 x2 z P else (∃ a_7, x0 = some a_7 ∧ zK z a_7 = 14 ∧ (if zN z a_7 ≤ x1 then F_X11_isNumber_25 x0 x1 x2 z P else (0 ≤ x1 ∧ x1 < zN z a_7 ∧ (if zI z a_7 x1 = 45 then F_X11_isNumber_26 x0 x2 (w32 (x1 + 1)) z P else F_X11_isNumber_25 x0 x1 x2 z P)))))
theorem T_X11_isNumber  {x0 : Option Nat} {x1 : Int} {x2 : Int} {z : Z} {P : Int → Prop} (r_x1 : R32 x1) (r_x2 : R32 x2) (hw : Wz z)  (H : F_X11_isNumber x0 x1 x2 z P) : Con mX11_isNumber 2 0 0 [vr (x0), ii (x1), ii (x2)] (cz z) (QPI (cz z) P) := by
  refine con_of rfl (Nat.le_of_ble_eq_true rfl) (by decide) ?_
  show J mX11_isNumber 2 0 0 _ 0 [some (vr (x0)), some (ii (x1)), some (ii (x2)), none, none] [] (cz z)
  unfold F_X11_isNumber at H
  refine j_iload_n (dk dt_X11_isNumber 0 rfl) rfl ?_
  refine j_iload_n (dk dt_X11_isNumber 1 rfl) rfl ?_
  refine jz_icmp_ge 25 (dk dt_X11_isNumber 2 rfl) (by decide) r_x1 r_x2 H (fun H => ?_) (fun H => ?_)
  · exact j_el (T_X11_isNumber_25 r_x1 r_x2 hw   H) (And.intro rfl (And.intro rfl (And.intro rfl trivial)))
  · refine j_iload_n (dk dt_X11_isNumber 3 rfl) rfl ?_
    refine j_aload_n (dk dt_X11_isNumber 4 rfl) rfl ?_
    obtain ⟨a_7, e_7, k_7, H⟩ := H
    refine jz_alen (t := 0) (dk dt_X11_isNumber 5 rfl) e_7 k_7 (by decide) hw ?_
    refine jz_icmp_ge 25 (dk dt_X11_isNumber 6 rfl) (by decide) r_x1 (r32_len hw _) H (fun H => ?_) (fun H => ?_)
    · exact j_el (T_X11_isNumber_25 r_x1 r_x2 hw   H) (And.intro rfl (And.intro rfl (And.intro rfl trivial)))
    · refine j_aload_n (dk dt_X11_isNumber 7 rfl) rfl ?_
      refine j_iload_n (dk dt_X11_isNumber 8 rfl) rfl ?_
      obtain ⟨p_13, q_13, H⟩ := H
      refine jz_bald (dk dt_X11_isNumber 9 rfl) e_7 k_7 p_13 q_13 hw ?_
      refine j_bipush (v := Int32.ofInt 45) (dk dt_X11_isNumber 10 rfl) (by decide) ?_
      refine jz_icmp_ne 25 (dk dt_X11_isNumber 11 rfl) (by decide) (hw.1 _ _) (by decide) H (fun H => ?_) (fun H => ?_)
      · refine j_iload_n (dk dt_X11_isNumber 12 rfl) rfl ?_
        refine j_iconst (v := Int32.ofInt 1) (dk dt_X11_isNumber 13 rfl) (by decide) ?_
        refine jz_iadd (dk dt_X11_isNumber 14 rfl) ?_
        refine j_goto 26 (dk dt_X11_isNumber 15 rfl) (by decide) ?_
        exact j_el (T_X11_isNumber_26 r_x2 (r32_w _) hw   H) (And.intro rfl (And.intro rfl trivial))
      · exact j_el (T_X11_isNumber_25 r_x1 r_x2 hw   H) (And.intro rfl (And.intro rfl (And.intro rfl trivial)))
def L_X11_isWord_21  (x0 : Option Nat) (x1 : Int) (x3 : Nat) (x4 : Int) (z : Z) (P : Int ⊕ ((Unit) ⊕ (Unit)) → Prop) : Prop :=
  (x3 < 44 ∧ (if sLen x3 ≤ x4 then P (.inr (.inl ())) else (∃ a_35, x0 = some a_35 ∧ zK z a_35 = 14 ∧ (0 ≤ w32 (x1 + x4) ∧ w32 (x1 + x4) < zN z a_35 ∧ (x3 < 44 ∧ (0 ≤ x4 ∧ x4 < sLen x3 ∧ (if zI z a_35 (w32 (x1 + x4)) = sCh x3 x4 then P (.inl (w32 (x4 + 1))) else P (.inr (.inr ())))))))))
theorem U_X11_isWord_21  {x0 : Option Nat} {x1 : Int} {x3 : Nat} {x4 : Int} {z : Z} {P : Int ⊕ ((Unit) ⊕ (Unit)) → Prop} {post : Option Sv ⊕ String → Hp → Prop} (r_x1 : R32 x1) (r_x4 : R32 x4) (hw : Wz z)  (hl : ∀ (x4 : Int), P (.inl x4) → R32 x4 → J mX11_isWord 7 0 0 post 21 [some (vr (x0)), some (ii (x1)), none, some (vs (x3)), some (ii (x4))] [] (cz z)) (he0 : P (.inr (.inl ())) → J mX11_isWord 7 0 0 post 53 [none, none, none, none, none] [] (cz z)) (he1 : P (.inr (.inr ())) → J mX11_isWord 7 0 0 post 45 [none, none, none, none, none] [] (cz z)) (H : L_X11_isWord_21 x0 x1 x3 x4 z P) : J mX11_isWord 7 0 0 post 21 [some (vr (x0)), some (ii (x1)), none, some (vs (x3)), some (ii (x4))] [] (cz z) := by
  unfold L_X11_isWord_21 at H
  refine j_iload (dk dt_X11_isWord 14 rfl) rfl ?_
  refine j_aloadS_n (dk dt_X11_isWord 15 rfl) rfl ?_
  obtain ⟨l_24, H⟩ := H
  refine jz_slength (dk dt_X11_isWord 16 rfl) sv_X11_382 l_24 (by decide) (Nat.le_of_ble_eq_true rfl) ?_
  refine jz_icmp_ge 53 (dk dt_X11_isWord 17 rfl) (by decide) r_x4 (r32_sLen _) H (fun H => ?_) (fun H => ?_)
  · exact j_el (he0  H ) trivial
  · refine j_aload_n (dk dt_X11_isWord 18 rfl) rfl ?_
    refine j_iload_n (dk dt_X11_isWord 19 rfl) rfl ?_
    refine j_iload (dk dt_X11_isWord 20 rfl) rfl ?_
    refine jz_iadd (dk dt_X11_isWord 21 rfl) ?_
    obtain ⟨a_35, e_35, k_35, H⟩ := H
    obtain ⟨p_35, q_35, H⟩ := H
    refine jz_bald (dk dt_X11_isWord 22 rfl) e_35 k_35 p_35 q_35 hw ?_
    refine j_aloadS_n (dk dt_X11_isWord 23 rfl) rfl ?_
    refine j_iload (dk dt_X11_isWord 24 rfl) rfl ?_
    obtain ⟨l_39, H⟩ := H
    obtain ⟨p_39, q_39, H⟩ := H
    refine jz_scharAt (dk dt_X11_isWord 25 rfl) sv_X11_386 l_39 p_39 q_39 (by decide) (Nat.le_of_ble_eq_true rfl) ?_
    refine jz_icmp_eq 47 (dk dt_X11_isWord 26 rfl) (by decide) (hw.1 _ _) (r32_sCh _ _) H (fun H => ?_) (fun H => ?_)
    · refine jz_iinc (dk dt_X11_isWord 29 rfl) rfl ?_
      refine j_goto 21 (dk dt_X11_isWord 30 rfl) (by decide) ?_
      exact j_el (hl _ H (r32_w _)) (And.intro rfl (And.intro rfl (And.intro rfl (And.intro rfl trivial))))
    · exact j_el (he1  H ) trivial
def F_X11_isWord_21  (x0 : Option Nat) (x1 : Int) (x3 : Nat) (x4 : Int) (z : Z) (P : Int → Prop) : Prop :=
  lp (S := Int) (E := (Unit) ⊕ (Unit)) (fun q P_ => L_X11_isWord_21 x0 x1 x3 q z P_) x4 (fun e => match e with | (.inl _) => P 1 | (.inr _) => P 0)
theorem T_X11_isWord_21  {x0 : Option Nat} {x1 : Int} {x3 : Nat} {x4 : Int} {z : Z} {P : Int → Prop} (r_x1 : R32 x1) (r_x4 : R32 x4) (hw : Wz z)   (H : F_X11_isWord_21 x0 x1 x3 x4 z P) : J mX11_isWord 7 0 0 (nx (QPI (cz z) P)) 21 [some (vr (x0)), some (ii (x1)), none, some (vs (x3)), some (ii (x4))] [] (cz z) := by
  unfold F_X11_isWord_21 at H
  refine lp_J (G := fun q => R32 (q) → J mX11_isWord 7 0 0 (nx (QPI (cz z) P)) 21 [some (vr (x0)), some (ii (x1)), none, some (vs (x3)), some (ii ((q)))] [] (cz z)) (fun x4 P_ hl_ he_ Hb => ?_) x4 H r_x4
  intro r_x4
  refine U_X11_isWord_21 (P := P_) r_x1 r_x4 hw  (fun x4 Hp r_x4 => hl_ x4 Hp r_x4) ?_ ?_ Hb
  · intro Hp
    have H := he_ _ Hp
    refine j_iconst (v := Int32.ofInt 1) (dk dt_X11_isWord 31 rfl) (by decide) ?_
    exact j_ireturn (dk dt_X11_isWord 32 rfl) rfl (nar_z (by decide)) ⟨_, rfl, (by decide), rfl, H⟩
  · intro Hp
    have H := he_ _ Hp
    refine j_iconst (v := Int32.ofInt 0) (dk dt_X11_isWord 27 rfl) (by decide) ?_
    exact j_ireturn (dk dt_X11_isWord 28 rfl) rfl (nar_z (by decide)) ⟨_, rfl, (by decide), rfl, H⟩
def F_X11_isWord_16  (z : Z) (P : Int → Prop) : Prop :=
  P 0
theorem T_X11_isWord_16  {z : Z} {P : Int → Prop}  (hw : Wz z)   (H : F_X11_isWord_16 z P) : J mX11_isWord 7 0 0 (nx (QPI (cz z) P)) 16 [none, none, none, none, none] [] (cz z) := by
  unfold F_X11_isWord_16 at H
  refine j_iconst (v := Int32.ofInt 0) (dk dt_X11_isWord 10 rfl) (by decide) ?_
  exact j_ireturn (dk dt_X11_isWord 11 rfl) rfl (nar_z (by decide)) ⟨_, rfl, (by decide), rfl, H⟩
def F_X11_isWord  (x0 : Option Nat) (x1 : Int) (x2 : Int) (x3 : Nat) (z : Z) (P : Int → Prop) : Prop :=
  (x3 < 44 ∧ (if w32 (x2 - x1) = sLen x3 then (∃ a_12, x0 = some a_12 ∧ zK z a_12 = 14 ∧ (if x2 ≤ zN z a_12 then F_X11_isWord_21 x0 x1 x3 0 z P else F_X11_isWord_16 z P)) else F_X11_isWord_16 z P))
theorem T_X11_isWord  {x0 : Option Nat} {x1 : Int} {x2 : Int} {x3 : Nat} {z : Z} {P : Int → Prop} (r_x1 : R32 x1) (r_x2 : R32 x2) (hw : Wz z)  (H : F_X11_isWord x0 x1 x2 x3 z P) : Con mX11_isWord 7 0 0 [vr (x0), ii (x1), ii (x2), vs (x3)] (cz z) (QPI (cz z) P) := by
  refine con_of rfl (Nat.le_of_ble_eq_true rfl) (by decide) ?_
  show J mX11_isWord 7 0 0 _ 0 [some (vr (x0)), some (ii (x1)), some (ii (x2)), some (vs (x3)), none] [] (cz z)
  unfold F_X11_isWord at H
  refine j_iload_n (dk dt_X11_isWord 0 rfl) rfl ?_
  refine j_iload_n (dk dt_X11_isWord 1 rfl) rfl ?_
  refine jz_isub (dk dt_X11_isWord 2 rfl) ?_
  refine j_aloadS_n (dk dt_X11_isWord 3 rfl) rfl ?_
  obtain ⟨l_4, H⟩ := H
  refine jz_slength (dk dt_X11_isWord 4 rfl) sv_X11_382 l_4 (by decide) (Nat.le_of_ble_eq_true rfl) ?_
  refine jz_icmp_ne 16 (dk dt_X11_isWord 5 rfl) (by decide) (r32_w _) (r32_sLen _) H (fun H => ?_) (fun H => ?_)
  · refine j_iload_n (dk dt_X11_isWord 6 rfl) rfl ?_
    refine j_aload_n (dk dt_X11_isWord 7 rfl) rfl ?_
    obtain ⟨a_12, e_12, k_12, H⟩ := H
    refine jz_alen (t := 0) (dk dt_X11_isWord 8 rfl) e_12 k_12 (by decide) hw ?_
    refine jz_icmp_le 18 (dk dt_X11_isWord 9 rfl) (by decide) r_x2 (r32_len hw _) H (fun H => ?_) (fun H => ?_)
    · refine j_iconst (v := Int32.ofInt 0) (dk dt_X11_isWord 12 rfl) (by decide) ?_
      refine j_istore (dk dt_X11_isWord 13 rfl) (by decide) ?_
      exact j_el (T_X11_isWord_21 r_x1 (by decide) hw   H) (And.intro rfl (And.intro rfl (And.intro rfl (And.intro rfl trivial))))
    · exact j_el (T_X11_isWord_16  hw   H) trivial
  · exact j_el (T_X11_isWord_16  hw   H) trivial
def F_X11_isTruth_29  (s0 : Int) (z : Z) (P : Int → Prop) : Prop :=
  (Z1 s0 ∧ P s0)
theorem T_X11_isTruth_29  {s0 : Int} {z : Z} {P : Int → Prop} (r_s0 : R32 s0) (hw : Wz z)   (H : F_X11_isTruth_29 s0 z P) : J mX11_isTruth 8 0 0 (nx (QPI (cz z) P)) 29 [none, none, none] [ii (s0)] (cz z) := by
  unfold F_X11_isTruth_29 at H
  obtain ⟨hz_, H⟩ := H
  exact j_ireturn (dk dt_X11_isTruth 15 rfl) rfl (nar_z hz_) ⟨_, rfl, r_s0, rfl, H⟩
def F_X11_isTruth_24  (z : Z) (P : Int → Prop) : Prop :=
  F_X11_isTruth_29 1 z P
theorem T_X11_isTruth_24  {z : Z} {P : Int → Prop}  (hw : Wz z)   (H : F_X11_isTruth_24 z P) : J mX11_isTruth 8 0 0 (nx (QPI (cz z) P)) 24 [none, none, none] [] (cz z) := by
  unfold F_X11_isTruth_24 at H
  refine j_iconst (v := Int32.ofInt 1) (dk dt_X11_isTruth 12 rfl) (by decide) ?_
  refine j_goto 29 (dk dt_X11_isTruth 13 rfl) (by decide) ?_
  exact j_el (T_X11_isTruth_29 (by decide) hw   H) trivial
def F_X11_isTruth  (x0 : Option Nat) (x1 : Int) (x2 : Int) (z : Z) (P : Int → Prop) : Prop :=
  F_X11_isWord x0 x1 x2 5 z (fun x_6 => (if x_6 = 0 then F_X11_isWord x0 x1 x2 6 z (fun x_18 => (if x_18 = 0 then F_X11_isTruth_29 0 z P else F_X11_isTruth_24 z P)) else F_X11_isTruth_24 z P))
theorem T_X11_isTruth  {x0 : Option Nat} {x1 : Int} {x2 : Int} {z : Z} {P : Int → Prop} (r_x1 : R32 x1) (r_x2 : R32 x2) (hw : Wz z)  (H : F_X11_isTruth x0 x1 x2 z P) : Con mX11_isTruth 8 0 0 [vr (x0), ii (x1), ii (x2)] (cz z) (QPI (cz z) P) := by
  refine con_of rfl (Nat.le_of_ble_eq_true rfl) (by decide) ?_
  show J mX11_isTruth 8 0 0 _ 0 [some (vr (x0)), some (ii (x1)), some (ii (x2))] [] (cz z)
  unfold F_X11_isTruth at H
  refine j_aload_n (dk dt_X11_isTruth 0 rfl) rfl ?_
  refine j_iload_n (dk dt_X11_isTruth 1 rfl) rfl ?_
  refine j_iload_n (dk dt_X11_isTruth 2 rfl) rfl ?_
  refine j_ldcwS 5 rfl (dk dt_X11_isTruth 3 rfl) rfl rfl ?_
  refine j_callS4 (dk dt_X11_isTruth 4 rfl) sl_X11_392 (T_X11_isWord r_x1 r_x2 hw H) rfl (by decide) (Nat.zero_le _) (Nat.zero_le _) (Nat.le_of_ble_eq_true rfl) (fun v_6 h_6 P_6 => ?_)
  obtain ⟨x_6, rfl, r_6, rfl, H⟩ := P_6
  dsimp only [rs]
  refine jz_if_ne 24 (dk dt_X11_isTruth 5 rfl) (by decide) r_6 H (fun H => ?_) (fun H => ?_)
  · refine j_aload_n (dk dt_X11_isTruth 6 rfl) rfl ?_
    refine j_iload_n (dk dt_X11_isTruth 7 rfl) rfl ?_
    refine j_iload_n (dk dt_X11_isTruth 8 rfl) rfl ?_
    refine j_ldcwS 6 rfl (dk dt_X11_isTruth 9 rfl) rfl rfl ?_
    refine j_callS4 (dk dt_X11_isTruth 10 rfl) sl_X11_392 (T_X11_isWord r_x1 r_x2 hw H) rfl (by decide) (Nat.zero_le _) (Nat.zero_le _) (Nat.le_of_ble_eq_true rfl) (fun v_18 h_18 P_18 => ?_)
    obtain ⟨x_18, rfl, r_18, rfl, H⟩ := P_18
    dsimp only [rs]
    refine jz_if_eq 28 (dk dt_X11_isTruth 11 rfl) (by decide) r_18 H (fun H => ?_) (fun H => ?_)
    · refine j_iconst (v := Int32.ofInt 0) (dk dt_X11_isTruth 14 rfl) (by decide) ?_
      exact j_el (T_X11_isTruth_29 (by decide) hw   H) trivial
    · exact j_el (T_X11_isTruth_24  hw   H) trivial
  · exact j_el (T_X11_isTruth_24  hw   H) trivial
def F_X10_changesUnquoted_20  (z : Z) (P : Int → Prop) : Prop :=
  P 1
theorem T_X10_changesUnquoted_20  {z : Z} {P : Int → Prop}  (hw : Wz z)   (H : F_X10_changesUnquoted_20 z P) : J mX10_changesUnquoted 9 0 0 (nx (QPI (cz z) P)) 20 [none, none, none] [] (cz z) := by
  unfold F_X10_changesUnquoted_20 at H
  refine j_iconst (v := Int32.ofInt 1) (dk dt_X10_changesUnquoted 12 rfl) (by decide) ?_
  exact j_ireturn (dk dt_X10_changesUnquoted 13 rfl) rfl (nar_z (by decide)) ⟨_, rfl, (by decide), rfl, H⟩
def F_X10_changesUnquoted_89  (s0 : Int) (z : Z) (P : Int → Prop) : Prop :=
  (Z1 s0 ∧ P s0)
theorem T_X10_changesUnquoted_89  {s0 : Int} {z : Z} {P : Int → Prop} (r_s0 : R32 s0) (hw : Wz z)   (H : F_X10_changesUnquoted_89 s0 z P) : J mX10_changesUnquoted 9 0 0 (nx (QPI (cz z) P)) 89 [none, none, none] [ii (s0)] (cz z) := by
  unfold F_X10_changesUnquoted_89 at H
  obtain ⟨hz_, H⟩ := H
  exact j_ireturn (dk dt_X10_changesUnquoted 51 rfl) rfl (nar_z hz_) ⟨_, rfl, r_s0, rfl, H⟩
def F_X10_changesUnquoted_84  (z : Z) (P : Int → Prop) : Prop :=
  F_X10_changesUnquoted_89 1 z P
theorem T_X10_changesUnquoted_84  {z : Z} {P : Int → Prop}  (hw : Wz z)   (H : F_X10_changesUnquoted_84 z P) : J mX10_changesUnquoted 9 0 0 (nx (QPI (cz z) P)) 84 [none, none, none] [] (cz z) := by
  unfold F_X10_changesUnquoted_84 at H
  refine j_iconst (v := Int32.ofInt 1) (dk dt_X10_changesUnquoted 48 rfl) (by decide) ?_
  refine j_goto 89 (dk dt_X10_changesUnquoted 49 rfl) (by decide) ?_
  exact j_el (T_X10_changesUnquoted_89 (by decide) hw   H) trivial
def F_X10_changesUnquoted  (x0 : Option Nat) (z : Z) (P : Int → Prop) : Prop :=
  (∃ a_1, x0 = some a_1 ∧ zK z a_1 = 9 ∧ (if w32 (zG z a_1 2) < 1 then F_X10_changesUnquoted_20 z P else (∃ a_16, zO z a_1 0 = some a_16 ∧ zK z a_16 = 14 ∧ (if w32 (zG z a_1 2) ≤ zN z a_16 then ((0 : Int) ≤ 0 ∧ 0 < zN z a_16 ∧ (if zI z a_16 0 = 32 then F_X10_changesUnquoted_84 z P else (if zI z a_16 0 = 61 then F_X10_changesUnquoted_84 z P else (if zI z a_16 0 = 39 then F_X10_changesUnquoted_84 z P else (0 ≤ w32 ((w32 (zG z a_1 2)) - 1) ∧ w32 ((w32 (zG z a_1 2)) - 1) < zN z a_16 ∧ (if zI z a_16 (w32 ((w32 (zG z a_1 2)) - 1)) = 32 then F_X10_changesUnquoted_84 z P else F_X11_isNumber (zO z a_1 0) 0 (w32 (zG z a_1 2)) z (fun x_66 => (if x_66 = 0 then F_X11_isTruth (zO z a_1 0) 0 (w32 (zG z a_1 2)) z (fun x_78 => (if x_78 = 0 then F_X10_changesUnquoted_89 0 z P else F_X10_changesUnquoted_84 z P)) else F_X10_changesUnquoted_84 z P)))))))) else F_X10_changesUnquoted_20 z P))))
theorem T_X10_changesUnquoted  {x0 : Option Nat} {z : Z} {P : Int → Prop}  (hw : Wz z)  (H : F_X10_changesUnquoted x0 z P) : Con mX10_changesUnquoted 9 0 0 [vr (x0)] (cz z) (QPI (cz z) P) := by
  refine con_of rfl (Nat.le_of_ble_eq_true rfl) (by decide) ?_
  show J mX10_changesUnquoted 9 0 0 _ 0 [some (vr (x0)), none, none] [] (cz z)
  unfold F_X10_changesUnquoted at H
  refine j_aload_n (dk dt_X10_changesUnquoted 0 rfl) rfl ?_
  obtain ⟨a_1, e_1, k_1, H⟩ := H
  refine jz_getG (kz := 2) (dk dt_X10_changesUnquoted 1 rfl) fl_X10_71 rfl rfl e_1 k_1 ?_
  refine jz_l2i (dk dt_X10_changesUnquoted 2 rfl) ?_
  refine j_istore_n (dk dt_X10_changesUnquoted 3 rfl) (by decide) ?_
  refine j_iload_n (dk dt_X10_changesUnquoted 4 rfl) rfl ?_
  refine j_iconst (v := Int32.ofInt 1) (dk dt_X10_changesUnquoted 5 rfl) (by decide) ?_
  refine jz_icmp_lt 20 (dk dt_X10_changesUnquoted 6 rfl) (by decide) (r32_w _) (by decide) H (fun H => ?_) (fun H => ?_)
  · exact j_el (T_X10_changesUnquoted_20  hw   H) trivial
  · refine j_iload_n (dk dt_X10_changesUnquoted 7 rfl) rfl ?_
    refine j_aload_n (dk dt_X10_changesUnquoted 8 rfl) rfl ?_
    refine jz_getO (kz := 0) (dk dt_X10_changesUnquoted 9 rfl) fl_X10_75 rfl rfl e_1 k_1 ?_
    obtain ⟨a_16, e_16, k_16, H⟩ := H
    refine jz_alen (t := 0) (dk dt_X10_changesUnquoted 10 rfl) e_16 k_16 (by decide) hw ?_
    refine jz_icmp_le 22 (dk dt_X10_changesUnquoted 11 rfl) (by decide) (r32_w _) (r32_len hw _) H (fun H => ?_) (fun H => ?_)
    · refine j_aload_n (dk dt_X10_changesUnquoted 14 rfl) rfl ?_
      refine jz_getO (kz := 0) (dk dt_X10_changesUnquoted 15 rfl) fl_X10_75 rfl rfl e_1 k_1 ?_
      refine j_iconst (v := Int32.ofInt 0) (dk dt_X10_changesUnquoted 16 rfl) (by decide) ?_
      obtain ⟨p_27, q_27, H⟩ := H
      refine jz_bald (dk dt_X10_changesUnquoted 17 rfl) e_16 k_16 p_27 q_27 hw ?_
      refine j_istore_n (dk dt_X10_changesUnquoted 18 rfl) (by decide) ?_
      refine j_iload_n (dk dt_X10_changesUnquoted 19 rfl) rfl ?_
      refine j_bipush (v := Int32.ofInt 32) (dk dt_X10_changesUnquoted 20 rfl) (by decide) ?_
      refine jz_icmp_eq 84 (dk dt_X10_changesUnquoted 21 rfl) (by decide) (hw.1 _ _) (by decide) H (fun H => ?_) (fun H => ?_)
      · exact j_el (T_X10_changesUnquoted_84  hw   H) trivial
      · refine j_iload_n (dk dt_X10_changesUnquoted 22 rfl) rfl ?_
        refine j_bipush (v := Int32.ofInt 61) (dk dt_X10_changesUnquoted 23 rfl) (by decide) ?_
        refine jz_icmp_eq 84 (dk dt_X10_changesUnquoted 24 rfl) (by decide) (hw.1 _ _) (by decide) H (fun H => ?_) (fun H => ?_)
        · exact j_el (T_X10_changesUnquoted_84  hw   H) trivial
        · refine j_iload_n (dk dt_X10_changesUnquoted 25 rfl) rfl ?_
          refine j_bipush (v := Int32.ofInt 39) (dk dt_X10_changesUnquoted 26 rfl) (by decide) ?_
          refine jz_icmp_eq 84 (dk dt_X10_changesUnquoted 27 rfl) (by decide) (hw.1 _ _) (by decide) H (fun H => ?_) (fun H => ?_)
          · exact j_el (T_X10_changesUnquoted_84  hw   H) trivial
          · refine j_aload_n (dk dt_X10_changesUnquoted 28 rfl) rfl ?_
            refine jz_getO (kz := 0) (dk dt_X10_changesUnquoted 29 rfl) fl_X10_75 rfl rfl e_1 k_1 ?_
            refine j_iload_n (dk dt_X10_changesUnquoted 30 rfl) rfl ?_
            refine j_iconst (v := Int32.ofInt 1) (dk dt_X10_changesUnquoted 31 rfl) (by decide) ?_
            refine jz_isub (dk dt_X10_changesUnquoted 32 rfl) ?_
            obtain ⟨p_54, q_54, H⟩ := H
            refine jz_bald (dk dt_X10_changesUnquoted 33 rfl) e_16 k_16 p_54 q_54 hw ?_
            refine j_bipush (v := Int32.ofInt 32) (dk dt_X10_changesUnquoted 34 rfl) (by decide) ?_
            refine jz_icmp_eq 84 (dk dt_X10_changesUnquoted 35 rfl) (by decide) (hw.1 _ _) (by decide) H (fun H => ?_) (fun H => ?_)
            · exact j_el (T_X10_changesUnquoted_84  hw   H) trivial
            · refine j_aload_n (dk dt_X10_changesUnquoted 36 rfl) rfl ?_
              refine jz_getO (kz := 0) (dk dt_X10_changesUnquoted 37 rfl) fl_X10_75 rfl rfl e_1 k_1 ?_
              refine j_iconst (v := Int32.ofInt 0) (dk dt_X10_changesUnquoted 38 rfl) (by decide) ?_
              refine j_iload_n (dk dt_X10_changesUnquoted 39 rfl) rfl ?_
              refine j_callSN3 (dk dt_X10_changesUnquoted 40 rfl) snl_X10_78 (T_X11_isNumber (by decide) (r32_w _) hw H) rfl (by decide) (Nat.zero_le _) (Nat.zero_le _) (Nat.le_of_ble_eq_true rfl) (fun v_66 h_66 P_66 => ?_)
              obtain ⟨x_66, rfl, r_66, rfl, H⟩ := P_66
              dsimp only [rs]
              refine jz_if_ne 84 (dk dt_X10_changesUnquoted 41 rfl) (by decide) r_66 H (fun H => ?_) (fun H => ?_)
              · refine j_aload_n (dk dt_X10_changesUnquoted 42 rfl) rfl ?_
                refine jz_getO (kz := 0) (dk dt_X10_changesUnquoted 43 rfl) fl_X10_75 rfl rfl e_1 k_1 ?_
                refine j_iconst (v := Int32.ofInt 0) (dk dt_X10_changesUnquoted 44 rfl) (by decide) ?_
                refine j_iload_n (dk dt_X10_changesUnquoted 45 rfl) rfl ?_
                refine j_callSN3 (dk dt_X10_changesUnquoted 46 rfl) snl_X10_82 (T_X11_isTruth (by decide) (r32_w _) hw H) rfl (by decide) (Nat.zero_le _) (Nat.zero_le _) (Nat.le_of_ble_eq_true rfl) (fun v_78 h_78 P_78 => ?_)
                obtain ⟨x_78, rfl, r_78, rfl, H⟩ := P_78
                dsimp only [rs]
                refine jz_if_eq 88 (dk dt_X10_changesUnquoted 47 rfl) (by decide) r_78 H (fun H => ?_) (fun H => ?_)
                · refine j_iconst (v := Int32.ofInt 0) (dk dt_X10_changesUnquoted 50 rfl) (by decide) ?_
                  exact j_el (T_X10_changesUnquoted_89 (by decide) hw   H) trivial
                · exact j_el (T_X10_changesUnquoted_84  hw   H) trivial
              · exact j_el (T_X10_changesUnquoted_84  hw   H) trivial
    · exact j_el (T_X10_changesUnquoted_20  hw   H) trivial
