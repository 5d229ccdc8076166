def F_X4_shifted_144  (z : Z) (c : Nat) (s : Nat) (P : Option Nat → Z → Prop) : Prop :=
  (1 ≤ c ∧ 9 ≤ s ∧ ∀ a_144, zK z a_144 = 0 → (∀ z_144, z_144 = nZ z a_144 5 0 → F_X4_init a_144 15 0 none z_144 (fun z_152 => P (some a_144) z_152)))
theorem T_X4_shifted_144  {z : Z} {c : Nat} {s : Nat} {P : Option Nat → Z → Prop}  (hw : Wz z)   (H : F_X4_shifted_144 z c s P) : J mX4_shifted 5 c s (nx (QZA P)) 144 [none, none, none, none, none, none, none, none, none] [] (cz z) := by
  unfold F_X4_shifted_144 at H
  obtain ⟨hc_144, hs_144, H⟩ := H
  refine jz_new (dk dt_X4_shifted 74 rfl) cl_4 nl_X4_10 iw_4 zw_4 rfl hc_144 hs_144 hw (fun a_144 e_144 w_144 => ?_)
  replace H := H a_144 e_144
  replace H := H _ rfl
  refine j_dup (dk dt_X4_shifted 75 rfl) rfl ?_
  refine j_bipush (v := Int32.ofInt 15) (dk dt_X4_shifted 76 rfl) (by decide) ?_
  refine j_iconst (v := Int32.ofInt 0) (dk dt_X4_shifted 77 rfl) (by decide) ?_
  refine j_null (dk dt_X4_shifted 78 rfl) ?_
  refine jz_callI3 (dk dt_X4_shifted 79 rfl) il_X4_55 rfl (T_X4_init (by decide) (by decide) w_144 H) rfl (by decide) (Nat.zero_le _) (Nat.zero_le _) (Nat.le_of_ble_eq_true rfl) (fun v_152 h_152 P_152 => ?_)
  obtain ⟨z_152, rfl, rfl, w_152, H⟩ := P_152
  dsimp only [rs]
  exact j_areturn (dk dt_X4_shifted 80 rfl) rfl rfl ⟨_, _, rfl, rfl, w_152, H⟩
def F_X4_shifted_122  (t0 : Nat) (x4 : Int) (x5 : Int) (x6 : Int) (s0 : Int) (z : Z) (c : Nat) (s : Nat) (P : Option Nat → Z → Prop) : Prop :=
  (if x4 = 0 then F_X4_shifted_144 z c s P else (if x5 = 0 then F_X4_shifted_144 z c s P else (if x6 = 0 then F_X4_shifted_144 z c s P else (if s0 = 0 then F_X4_shifted_144 z c s P else (1 ≤ c ∧ 9 ≤ s ∧ ∀ a_156, zK z a_156 = 0 → (∀ z_156, z_156 = nZ z a_156 5 0 → (zK z_156 t0 = 5 ∧ F_X4_init a_156 (zI z_156 t0 0) 0 none z_156 (fun z_166 => (zK z_166 a_156 = 5 ∧ (∀ z_175, z_175 = wI z_166 a_156 3 x4 → (∀ z_182, z_182 = wI z_175 a_156 4 x5 → (∀ z_189, z_189 = wI z_182 a_156 5 x6 → (∀ z_196, z_196 = wI z_189 a_156 6 s0 → (zK z_196 t0 = 5 ∧ (∀ z_205, z_205 = wI z_196 a_156 7 (zI z_196 t0 7) → (∀ z_214, z_214 = wI z_205 a_156 8 (zI z_205 t0 8) → P (some a_156) z_214))))))))))))))))
theorem T_X4_shifted_122  {t0 : Nat} {x4 : Int} {x5 : Int} {x6 : Int} {s0 : Int} {z : Z} {c : Nat} {s : Nat} {P : Option Nat → Z → Prop} (r_x4 : R32 x4) (r_x5 : R32 x5) (r_x6 : R32 x6) (r_s0 : R32 s0) (hw : Wz z)   (H : F_X4_shifted_122 t0 x4 x5 x6 s0 z c s P) : J mX4_shifted 5 c s (nx (QZA P)) 122 [some (vr (some t0)), none, none, none, some (ii (x4)), some (ii (x5)), some (ii (x6)), none, none] [ii (s0)] (cz z) := by
  unfold F_X4_shifted_122 at H
  refine j_istore (dk dt_X4_shifted 65 rfl) (by decide) ?_
  refine j_iload (dk dt_X4_shifted 66 rfl) rfl ?_
  refine jz_if_eq 144 (dk dt_X4_shifted 67 rfl) (by decide) r_x4 H (fun H => ?_) (fun H => ?_)
  · exact j_el (T_X4_shifted_144  hw   H) trivial
  · refine j_iload (dk dt_X4_shifted 68 rfl) rfl ?_
    refine jz_if_eq 144 (dk dt_X4_shifted 69 rfl) (by decide) r_x5 H (fun H => ?_) (fun H => ?_)
    · exact j_el (T_X4_shifted_144  hw   H) trivial
    · refine j_iload (dk dt_X4_shifted 70 rfl) rfl ?_
      refine jz_if_eq 144 (dk dt_X4_shifted 71 rfl) (by decide) r_x6 H (fun H => ?_) (fun H => ?_)
      · exact j_el (T_X4_shifted_144  hw   H) trivial
      · refine j_iload (dk dt_X4_shifted 72 rfl) rfl ?_
        refine jz_if_ne 156 (dk dt_X4_shifted 73 rfl) (by decide) r_s0 H (fun H => ?_) (fun H => ?_)
        · exact j_el (T_X4_shifted_144  hw   H) trivial
        · obtain ⟨hc_156, hs_156, H⟩ := H
          refine jz_new (dk dt_X4_shifted 81 rfl) cl_4 nl_X4_10 iw_4 zw_4 rfl hc_156 hs_156 hw (fun a_156 e_156 w_156 => ?_)
          replace H := H a_156 e_156
          replace H := H _ rfl
          refine j_dup (dk dt_X4_shifted 82 rfl) rfl ?_
          refine j_aload_n (dk dt_X4_shifted 83 rfl) rfl ?_
          obtain ⟨k_161, H⟩ := H
          refine jz_getI (kz := 0) (dk dt_X4_shifted 84 rfl) fl_X4_15 rfl rfl rfl k_161 ?_
          refine j_iconst (v := Int32.ofInt 0) (dk dt_X4_shifted 85 rfl) (by decide) ?_
          refine j_null (dk dt_X4_shifted 86 rfl) ?_
          refine jz_callI3 (dk dt_X4_shifted 87 rfl) il_X4_55 rfl (T_X4_init (w_156.1 _ _) (by decide) w_156 H) rfl (by decide) (Nat.zero_le _) (Nat.zero_le _) (Nat.le_of_ble_eq_true rfl) (fun v_166 h_166 P_166 => ?_)
          obtain ⟨z_166, rfl, rfl, w_166, H⟩ := P_166
          dsimp only [rs]
          refine j_astore (dk dt_X4_shifted 88 rfl) (by decide) ?_
          refine j_aload (dk dt_X4_shifted 89 rfl) rfl ?_
          refine j_iload (dk dt_X4_shifted 90 rfl) rfl ?_
          obtain ⟨k_175, H⟩ := H
          refine jz_putI (kz := 3) (dk dt_X4_shifted 91 rfl) fl_X4_25 rfl rfl rfl rfl rfl k_175 w_166 r_x4 (fun w_175 => ?_)
          replace H := H _ rfl
          refine j_aload (dk dt_X4_shifted 92 rfl) rfl ?_
          refine j_iload (dk dt_X4_shifted 93 rfl) rfl ?_
          refine jz_putI (kz := 4) (dk dt_X4_shifted 94 rfl) fl_X4_28 rfl rfl rfl rfl rfl k_175 w_175 r_x5 (fun w_182 => ?_)
          replace H := H _ rfl
          refine j_aload (dk dt_X4_shifted 95 rfl) rfl ?_
          refine j_iload (dk dt_X4_shifted 96 rfl) rfl ?_
          refine jz_putI (kz := 5) (dk dt_X4_shifted 97 rfl) fl_X4_31 rfl rfl rfl rfl rfl k_175 w_182 r_x6 (fun w_189 => ?_)
          replace H := H _ rfl
          refine j_aload (dk dt_X4_shifted 98 rfl) rfl ?_
          refine j_iload (dk dt_X4_shifted 99 rfl) rfl ?_
          refine jz_putI (kz := 6) (dk dt_X4_shifted 100 rfl) fl_X4_34 rfl rfl rfl rfl rfl k_175 w_189 r_s0 (fun w_196 => ?_)
          replace H := H _ rfl
          refine j_aload (dk dt_X4_shifted 101 rfl) rfl ?_
          refine j_aload_n (dk dt_X4_shifted 102 rfl) rfl ?_
          obtain ⟨k_202, H⟩ := H
          refine jz_getI (kz := 7) (dk dt_X4_shifted 103 rfl) fl_X4_37 rfl rfl rfl k_202 ?_
          refine jz_putI (kz := 7) (dk dt_X4_shifted 104 rfl) fl_X4_37 rfl rfl rfl rfl rfl k_175 w_196 (w_196.1 _ _) (fun w_205 => ?_)
          replace H := H _ rfl
          refine j_aload (dk dt_X4_shifted 105 rfl) rfl ?_
          refine j_aload_n (dk dt_X4_shifted 106 rfl) rfl ?_
          refine jz_getI (kz := 8) (dk dt_X4_shifted 107 rfl) fl_X4_9 rfl rfl rfl k_202 ?_
          refine jz_putI (kz := 8) (dk dt_X4_shifted 108 rfl) fl_X4_9 rfl rfl rfl rfl rfl k_175 w_205 (w_205.1 _ _) (fun w_214 => ?_)
          replace H := H _ rfl
          refine j_aload (dk dt_X4_shifted 109 rfl) rfl ?_
          exact j_areturn (dk dt_X4_shifted 110 rfl) rfl rfl ⟨_, _, rfl, rfl, w_214, H⟩
def F_X4_shifted_93  (t0 : Nat) (x1 : Option Nat) (x3 : Int) (x4 : Int) (x5 : Int) (s0 : Int) (z : Z) (c : Nat) (s : Nat) (P : Option Nat → Z → Prop) : Prop :=
  (zK z t0 = 5 ∧ (if bAnd (zI z t0 7) 8 = 0 then (∃ a_119, x1 = some a_119 ∧ zK z a_119 = 7 ∧ F_X6_further a_119 1 (zI z t0 6) x3 z (fun x_119 => F_X4_shifted_122 t0 x4 x5 s0 x_119 z c s P)) else F_X4_shifted_122 t0 x4 x5 s0 (zI z t0 6) z c s P))
theorem T_X4_shifted_93  {t0 : Nat} {x1 : Option Nat} {x3 : Int} {x4 : Int} {x5 : Int} {s0 : Int} {z : Z} {c : Nat} {s : Nat} {P : Option Nat → Z → Prop} (r_x3 : R32 x3) (r_x4 : R32 x4) (r_x5 : R32 x5) (r_s0 : R32 s0) (hw : Wz z)   (H : F_X4_shifted_93 t0 x1 x3 x4 x5 s0 z c s P) : J mX4_shifted 5 c s (nx (QZA P)) 93 [some (vr (some t0)), some (vr (x1)), none, some (ii (x3)), some (ii (x4)), some (ii (x5)), none, none, none] [ii (s0)] (cz z) := by
  unfold F_X4_shifted_93 at H
  refine j_istore (dk dt_X4_shifted 50 rfl) (by decide) ?_
  refine j_aload_n (dk dt_X4_shifted 51 rfl) rfl ?_
  obtain ⟨k_96, H⟩ := H
  refine jz_getI (kz := 7) (dk dt_X4_shifted 52 rfl) fl_X4_37 rfl rfl rfl k_96 ?_
  refine j_bipush (v := Int32.ofInt 8) (dk dt_X4_shifted 53 rfl) (by decide) ?_
  refine jz_iand (dk dt_X4_shifted 54 rfl) ?_
  refine jz_if_eq 112 (dk dt_X4_shifted 55 rfl) (by decide) (r32_t _) H (fun H => ?_) (fun H => ?_)
  · refine j_aload_n (dk dt_X4_shifted 59 rfl) rfl ?_
    refine j_iconst (v := Int32.ofInt 1) (dk dt_X4_shifted 60 rfl) (by decide) ?_
    refine j_aload_n (dk dt_X4_shifted 61 rfl) rfl ?_
    refine jz_getI (kz := 6) (dk dt_X4_shifted 62 rfl) fl_X4_34 rfl rfl rfl k_96 ?_
    refine j_iload_n (dk dt_X4_shifted 63 rfl) rfl ?_
    obtain ⟨a_119, e_119, k_119, H⟩ := H
    refine jz_callV3 (dk dt_X4_shifted 64 rfl) vl_X4_49 e_119 (T_X6_further (by decide) (hw.1 _ _) r_x3 hw H) k_119 rfl (by decide) (Nat.zero_le _) (Nat.zero_le _) (Nat.le_of_ble_eq_true rfl) (fun v_119 h_119 P_119 => ?_)
    obtain ⟨x_119, rfl, r_119, rfl, H⟩ := P_119
    dsimp only [rs]
    exact j_el (T_X4_shifted_122 r_x4 r_x5 r_s0 r_119 hw   H) (And.intro rfl (And.intro rfl (And.intro rfl (And.intro rfl trivial))))
  · refine j_aload_n (dk dt_X4_shifted 56 rfl) rfl ?_
    refine jz_getI (kz := 6) (dk dt_X4_shifted 57 rfl) fl_X4_34 rfl rfl rfl k_96 ?_
    refine j_goto 122 (dk dt_X4_shifted 58 rfl) (by decide) ?_
    exact j_el (T_X4_shifted_122 r_x4 r_x5 r_s0 (hw.1 _ _) hw   H) (And.intro rfl (And.intro rfl (And.intro rfl (And.intro rfl trivial))))
def F_X4_shifted_65  (t0 : Nat) (x1 : Option Nat) (x2 : Int) (x3 : Int) (x4 : Int) (s0 : Int) (z : Z) (c : Nat) (s : Nat) (P : Option Nat → Z → Prop) : Prop :=
  (zK z t0 = 5 ∧ (if bAnd (zI z t0 7) 4 = 0 then (∃ a_90, x1 = some a_90 ∧ zK z a_90 = 7 ∧ F_X6_further a_90 0 (zI z t0 5) x2 z (fun x_90 => F_X4_shifted_93 t0 x1 x3 x4 s0 x_90 z c s P)) else F_X4_shifted_93 t0 x1 x3 x4 s0 (zI z t0 5) z c s P))
theorem T_X4_shifted_65  {t0 : Nat} {x1 : Option Nat} {x2 : Int} {x3 : Int} {x4 : Int} {s0 : Int} {z : Z} {c : Nat} {s : Nat} {P : Option Nat → Z → Prop} (r_x2 : R32 x2) (r_x3 : R32 x3) (r_x4 : R32 x4) (r_s0 : R32 s0) (hw : Wz z)   (H : F_X4_shifted_65 t0 x1 x2 x3 x4 s0 z c s P) : J mX4_shifted 5 c s (nx (QZA P)) 65 [some (vr (some t0)), some (vr (x1)), some (ii (x2)), some (ii (x3)), some (ii (x4)), none, none, none, none] [ii (s0)] (cz z) := by
  unfold F_X4_shifted_65 at H
  refine j_istore (dk dt_X4_shifted 35 rfl) (by decide) ?_
  refine j_aload_n (dk dt_X4_shifted 36 rfl) rfl ?_
  obtain ⟨k_68, H⟩ := H
  refine jz_getI (kz := 7) (dk dt_X4_shifted 37 rfl) fl_X4_37 rfl rfl rfl k_68 ?_
  refine j_iconst (v := Int32.ofInt 4) (dk dt_X4_shifted 38 rfl) (by decide) ?_
  refine jz_iand (dk dt_X4_shifted 39 rfl) ?_
  refine jz_if_eq 83 (dk dt_X4_shifted 40 rfl) (by decide) (r32_t _) H (fun H => ?_) (fun H => ?_)
  · refine j_aload_n (dk dt_X4_shifted 44 rfl) rfl ?_
    refine j_iconst (v := Int32.ofInt 0) (dk dt_X4_shifted 45 rfl) (by decide) ?_
    refine j_aload_n (dk dt_X4_shifted 46 rfl) rfl ?_
    refine jz_getI (kz := 5) (dk dt_X4_shifted 47 rfl) fl_X4_31 rfl rfl rfl k_68 ?_
    refine j_iload_n (dk dt_X4_shifted 48 rfl) rfl ?_
    obtain ⟨a_90, e_90, k_90, H⟩ := H
    refine jz_callV3 (dk dt_X4_shifted 49 rfl) vl_X4_49 e_90 (T_X6_further (by decide) (hw.1 _ _) r_x2 hw H) k_90 rfl (by decide) (Nat.zero_le _) (Nat.zero_le _) (Nat.le_of_ble_eq_true rfl) (fun v_90 h_90 P_90 => ?_)
    obtain ⟨x_90, rfl, r_90, rfl, H⟩ := P_90
    dsimp only [rs]
    exact j_el (T_X4_shifted_93 r_x3 r_x4 r_s0 r_90 hw   H) (And.intro rfl (And.intro rfl (And.intro rfl (And.intro rfl (And.intro rfl trivial)))))
  · refine j_aload_n (dk dt_X4_shifted 41 rfl) rfl ?_
    refine jz_getI (kz := 5) (dk dt_X4_shifted 42 rfl) fl_X4_31 rfl rfl rfl k_68 ?_
    refine j_goto 93 (dk dt_X4_shifted 43 rfl) (by decide) ?_
    exact j_el (T_X4_shifted_93 r_x3 r_x4 r_s0 (hw.1 _ _) hw   H) (And.intro rfl (And.intro rfl (And.intro rfl (And.intro rfl (And.intro rfl trivial)))))
def F_X4_shifted_37  (t0 : Nat) (x1 : Option Nat) (x2 : Int) (x3 : Int) (s0 : Int) (z : Z) (c : Nat) (s : Nat) (P : Option Nat → Z → Prop) : Prop :=
  (zK z t0 = 5 ∧ (if bAnd (zI z t0 7) 2 = 0 then (∃ a_62, x1 = some a_62 ∧ zK z a_62 = 7 ∧ F_X6_further a_62 1 (zI z t0 4) x3 z (fun x_62 => F_X4_shifted_65 t0 x1 x2 x3 s0 x_62 z c s P)) else F_X4_shifted_65 t0 x1 x2 x3 s0 (zI z t0 4) z c s P))
theorem T_X4_shifted_37  {t0 : Nat} {x1 : Option Nat} {x2 : Int} {x3 : Int} {s0 : Int} {z : Z} {c : Nat} {s : Nat} {P : Option Nat → Z → Prop} (r_x2 : R32 x2) (r_x3 : R32 x3) (r_s0 : R32 s0) (hw : Wz z)   (H : F_X4_shifted_37 t0 x1 x2 x3 s0 z c s P) : J mX4_shifted 5 c s (nx (QZA P)) 37 [some (vr (some t0)), some (vr (x1)), some (ii (x2)), some (ii (x3)), none, none, none, none, none] [ii (s0)] (cz z) := by
  unfold F_X4_shifted_37 at H
  refine j_istore (dk dt_X4_shifted 20 rfl) (by decide) ?_
  refine j_aload_n (dk dt_X4_shifted 21 rfl) rfl ?_
  obtain ⟨k_40, H⟩ := H
  refine jz_getI (kz := 7) (dk dt_X4_shifted 22 rfl) fl_X4_37 rfl rfl rfl k_40 ?_
  refine j_iconst (v := Int32.ofInt 2) (dk dt_X4_shifted 23 rfl) (by decide) ?_
  refine jz_iand (dk dt_X4_shifted 24 rfl) ?_
  refine jz_if_eq 55 (dk dt_X4_shifted 25 rfl) (by decide) (r32_t _) H (fun H => ?_) (fun H => ?_)
  · refine j_aload_n (dk dt_X4_shifted 29 rfl) rfl ?_
    refine j_iconst (v := Int32.ofInt 1) (dk dt_X4_shifted 30 rfl) (by decide) ?_
    refine j_aload_n (dk dt_X4_shifted 31 rfl) rfl ?_
    refine jz_getI (kz := 4) (dk dt_X4_shifted 32 rfl) fl_X4_28 rfl rfl rfl k_40 ?_
    refine j_iload_n (dk dt_X4_shifted 33 rfl) rfl ?_
    obtain ⟨a_62, e_62, k_62, H⟩ := H
    refine jz_callV3 (dk dt_X4_shifted 34 rfl) vl_X4_49 e_62 (T_X6_further (by decide) (hw.1 _ _) r_x3 hw H) k_62 rfl (by decide) (Nat.zero_le _) (Nat.zero_le _) (Nat.le_of_ble_eq_true rfl) (fun v_62 h_62 P_62 => ?_)
    obtain ⟨x_62, rfl, r_62, rfl, H⟩ := P_62
    dsimp only [rs]
    exact j_el (T_X4_shifted_65 r_x2 r_x3 r_s0 r_62 hw   H) (And.intro rfl (And.intro rfl (And.intro rfl (And.intro rfl (And.intro rfl trivial)))))
  · refine j_aload_n (dk dt_X4_shifted 26 rfl) rfl ?_
    refine jz_getI (kz := 4) (dk dt_X4_shifted 27 rfl) fl_X4_28 rfl rfl rfl k_40 ?_
    refine j_goto 65 (dk dt_X4_shifted 28 rfl) (by decide) ?_
    exact j_el (T_X4_shifted_65 r_x2 r_x3 r_s0 (hw.1 _ _) hw   H) (And.intro rfl (And.intro rfl (And.intro rfl (And.intro rfl (And.intro rfl trivial)))))
def F_X4_shifted  (t0 : Nat) (x1 : Option Nat) (x2 : Int) (x3 : Int) (z : Z) (c : Nat) (s : Nat) (P : Option Nat → Z → Prop) : Prop :=
  (zK z t0 = 5 ∧ (if zI z t0 7 = 15 then P (some t0) z else (if bAnd (zI z t0 7) 1 = 0 then (∃ a_34, x1 = some a_34 ∧ zK z a_34 = 7 ∧ F_X6_further a_34 0 (zI z t0 3) x2 z (fun x_34 => F_X4_shifted_37 t0 x1 x2 x3 x_34 z c s P)) else F_X4_shifted_37 t0 x1 x2 x3 (zI z t0 3) z c s P)))
theorem T_X4_shifted  {t0 : Nat} {x1 : Option Nat} {x2 : Int} {x3 : Int} {z : Z} {c : Nat} {s : Nat} {P : Option Nat → Z → Prop} (r_x2 : R32 x2) (r_x3 : R32 x3) (hw : Wz z)  (H : F_X4_shifted t0 x1 x2 x3 z c s P) : Con mX4_shifted 5 c s [vr (some t0), vr (x1), ii (x2), ii (x3)] (cz z) (QZA P) := by
  refine con_of rfl (Nat.le_of_ble_eq_true rfl) (by decide) ?_
  show J mX4_shifted 5 c s _ 0 [some (vr (some t0)), some (vr (x1)), some (ii (x2)), some (ii (x3)), none, none, none, none, none] [] (cz z)
  unfold F_X4_shifted at H
  refine j_aload_n (dk dt_X4_shifted 0 rfl) rfl ?_
  obtain ⟨k_1, H⟩ := H
  refine jz_getI (kz := 7) (dk dt_X4_shifted 1 rfl) fl_X4_37 rfl rfl rfl k_1 ?_
  refine j_bipush (v := Int32.ofInt 15) (dk dt_X4_shifted 2 rfl) (by decide) ?_
  refine jz_icmp_ne 11 (dk dt_X4_shifted 3 rfl) (by decide) (hw.1 _ _) (by decide) H (fun H => ?_) (fun H => ?_)
  · refine j_aload_n (dk dt_X4_shifted 4 rfl) rfl ?_
    exact j_areturn (dk dt_X4_shifted 5 rfl) rfl rfl ⟨_, _, rfl, rfl, hw, H⟩
  · refine j_aload_n (dk dt_X4_shifted 6 rfl) rfl ?_
    refine jz_getI (kz := 7) (dk dt_X4_shifted 7 rfl) fl_X4_37 rfl rfl rfl k_1 ?_
    refine j_iconst (v := Int32.ofInt 1) (dk dt_X4_shifted 8 rfl) (by decide) ?_
    refine jz_iand (dk dt_X4_shifted 9 rfl) ?_
    refine jz_if_eq 27 (dk dt_X4_shifted 10 rfl) (by decide) (r32_t _) H (fun H => ?_) (fun H => ?_)
    · refine j_aload_n (dk dt_X4_shifted 14 rfl) rfl ?_
      refine j_iconst (v := Int32.ofInt 0) (dk dt_X4_shifted 15 rfl) (by decide) ?_
      refine j_aload_n (dk dt_X4_shifted 16 rfl) rfl ?_
      refine jz_getI (kz := 3) (dk dt_X4_shifted 17 rfl) fl_X4_25 rfl rfl rfl k_1 ?_
      refine j_iload_n (dk dt_X4_shifted 18 rfl) rfl ?_
      obtain ⟨a_34, e_34, k_34, H⟩ := H
      refine jz_callV3 (dk dt_X4_shifted 19 rfl) vl_X4_49 e_34 (T_X6_further (by decide) (hw.1 _ _) r_x2 hw H) k_34 rfl (by decide) (Nat.zero_le _) (Nat.zero_le _) (Nat.le_of_ble_eq_true rfl) (fun v_34 h_34 P_34 => ?_)
      obtain ⟨x_34, rfl, r_34, rfl, H⟩ := P_34
      dsimp only [rs]
      exact j_el (T_X4_shifted_37 r_x2 r_x3 r_34 hw   H) (And.intro rfl (And.intro rfl (And.intro rfl (And.intro rfl trivial))))
    · refine j_aload_n (dk dt_X4_shifted 11 rfl) rfl ?_
      refine jz_getI (kz := 3) (dk dt_X4_shifted 12 rfl) fl_X4_25 rfl rfl rfl k_1 ?_
      refine j_goto 37 (dk dt_X4_shifted 13 rfl) (by decide) ?_
      exact j_el (T_X4_shifted_37 r_x2 r_x3 (hw.1 _ _) hw   H) (And.intro rfl (And.intro rfl (And.intro rfl (And.intro rfl trivial))))
def F_X11_shifted_81  (t0 : Nat) (x1 : Option Nat) (x2 : Int) (x3 : Int) (x4 : Option Nat) (x5 : Int) (s0 : Option Nat) (s1 : Int) (s2 : Option Nat) (z : Z) (c : Nat) (s : Nat) (P : (Int × Z × Nat × Nat) ⊕ ((Z × Nat × Nat)) → Prop) : Prop :=
  (∃ a_81, s0 = some a_81 ∧ zK z a_81 = 20 ∧ (0 ≤ s1 ∧ s1 < zN z a_81 ∧ ((∀ v, s2 = some v → zK z v = 5) ∧ (∀ z_81, z_81 = wO z a_81 s1 s2 → P (.inl (w32 (x5 + 1), z_81, c, s))))))
theorem T_X11_shifted_81  {t0 : Nat} {x1 : Option Nat} {x2 : Int} {x3 : Int} {x4 : Option Nat} {x5 : Int} {s0 : Option Nat} {s1 : Int} {s2 : Option Nat} {z : Z} {c : Nat} {s : Nat} {P : (Int × Z × Nat × Nat) ⊕ ((Z × Nat × Nat)) → Prop} {post : Option Sv ⊕ String → Hp → Prop} (r_x2 : R32 x2) (r_x3 : R32 x3) (r_x5 : R32 x5) (r_s1 : R32 s1) (hw : Wz z)  (hl : ∀ (x5 : Int) (z : Z) (c : Nat) (s : Nat), P (.inl (x5, z, c, s)) → Wz z → R32 x5 → J mX11_shifted 6 c s post 22 [some (vr (some t0)), some (vr (x1)), some (ii (x2)), some (ii (x3)), some (vr (x4)), some (ii (x5)), none, none] [] (cz z)) (he0 : ∀ (z : Z) (c : Nat) (s : Nat), P (.inr (z, c, s)) → Wz z → J mX11_shifted 6 c s post 88 [none, none, none, none, some (vr (x4)), none, none, none] [] (cz z)) (H : F_X11_shifted_81 t0 x1 x2 x3 x4 x5 s0 s1 s2 z c s P) : J mX11_shifted 6 c s (post) 81 [some (vr (some t0)), some (vr (x1)), some (ii (x2)), some (ii (x3)), some (vr (x4)), some (ii (x5)), none, none] [vr (s2), ii (s1), vr (s0)] (cz z) := by
  unfold F_X11_shifted_81 at H
  obtain ⟨a_81, e_81, k_81, H⟩ := H
  obtain ⟨p_81, q_81, H⟩ := H
  obtain ⟨v_81, H⟩ := H
  refine jz_aast (t := 6) (dk dt_X11_shifted 40 rfl) e_81 k_81 (by decide) (by decide) p_81 q_81 hw v_81 (fun w_81 => ?_)
  replace H := H _ rfl
  refine jz_iinc (dk dt_X11_shifted 41 rfl) rfl ?_
  refine j_goto 22 (dk dt_X11_shifted 42 rfl) (by decide) ?_
  exact j_el (hl _ _ _ _ H w_81 (r32_w _)) (And.intro rfl (And.intro rfl (And.intro rfl (And.intro rfl (And.intro rfl (And.intro rfl trivial))))))
def F_X11_shifted_79  (t0 : Nat) (x1 : Option Nat) (x2 : Int) (x3 : Int) (x4 : Option Nat) (x5 : Int) (x6 : Option Nat) (s0 : Option Nat) (s1 : Int) (z : Z) (c : Nat) (s : Nat) (P : (Int × Z × Nat × Nat) ⊕ ((Z × Nat × Nat)) → Prop) : Prop :=
  F_X11_shifted_81 t0 x1 x2 x3 x4 x5 s0 s1 x6 z c s P
theorem T_X11_shifted_79  {t0 : Nat} {x1 : Option Nat} {x2 : Int} {x3 : Int} {x4 : Option Nat} {x5 : Int} {x6 : Option Nat} {s0 : Option Nat} {s1 : Int} {z : Z} {c : Nat} {s : Nat} {P : (Int × Z × Nat × Nat) ⊕ ((Z × Nat × Nat)) → Prop} {post : Option Sv ⊕ String → Hp → Prop} (r_x2 : R32 x2) (r_x3 : R32 x3) (r_x5 : R32 x5) (r_s1 : R32 s1) (hw : Wz z)  (hl : ∀ (x5 : Int) (z : Z) (c : Nat) (s : Nat), P (.inl (x5, z, c, s)) → Wz z → R32 x5 → J mX11_shifted 6 c s post 22 [some (vr (some t0)), some (vr (x1)), some (ii (x2)), some (ii (x3)), some (vr (x4)), some (ii (x5)), none, none] [] (cz z)) (he0 : ∀ (z : Z) (c : Nat) (s : Nat), P (.inr (z, c, s)) → Wz z → J mX11_shifted 6 c s post 88 [none, none, none, none, some (vr (x4)), none, none, none] [] (cz z)) (H : F_X11_shifted_79 t0 x1 x2 x3 x4 x5 x6 s0 s1 z c s P) : J mX11_shifted 6 c s (post) 79 [some (vr (some t0)), some (vr (x1)), some (ii (x2)), some (ii (x3)), some (vr (x4)), some (ii (x5)), some (vr (x6)), none] [ii (s1), vr (s0)] (cz z) := by
  unfold F_X11_shifted_79 at H
  refine j_aload (dk dt_X11_shifted 39 rfl) rfl ?_
  exact j_el (T_X11_shifted_81 r_x2 r_x3 r_x5 r_s1 hw  hl he0 H) (And.intro rfl (And.intro rfl (And.intro rfl (And.intro rfl (And.intro rfl (And.intro rfl trivial))))))
def L_X11_shifted_22  (t0 : Nat) (x1 : Option Nat) (x2 : Int) (x3 : Int) (x4 : Option Nat) (x5 : Int) (z : Z) (c : Nat) (s : Nat) (P : (Int × Z × Nat × Nat) ⊕ ((Z × Nat × Nat)) → Prop) : Prop :=
  (∃ a_26, x4 = some a_26 ∧ zK z a_26 = 20 ∧ (if zN z a_26 ≤ x5 then P (.inr (z, c, s)) else (∃ a_31, x1 = some a_31 ∧ zK z a_31 = 2 ∧ (∃ a_36, zO z a_31 2 = some a_36 ∧ zK z a_36 = 20 ∧ (0 ≤ x5 ∧ x5 < zN z a_36 ∧ (∃ a_42, zO z a_36 x5 = some a_42 ∧ zK z a_42 = 5 ∧ (zK z t0 = 12 ∧ F_X11_sheetOf t0 (zI z a_42 8) z (fun x_45 => F_X4_isPlace a_42 z (fun x_56 => (if x_56 = 0 then F_X11_shifted_79 t0 x1 x2 x3 x4 x5 (zO z a_36 x5) x4 x5 z c s P else (if x_45 = none then F_X11_shifted_79 t0 x1 x2 x3 x4 x5 (zO z a_36 x5) x4 x5 z c s P else (∃ c_73 s_73, c_73 ≤ c ∧ s_73 ≤ s ∧ F_X4_shifted a_42 x_45 x2 x3 z c_73 s_73 (fun x_73 z_73 => F_X11_shifted_81 t0 x1 x2 x3 x4 x5 x4 x5 x_73 z_73 (c - c_73) (s - s_73) P)))))))))))))
theorem U_X11_shifted_22  {t0 : Nat} {x1 : Option Nat} {x2 : Int} {x3 : Int} {x4 : Option Nat} {x5 : Int} {z : Z} {c : Nat} {s : Nat} {P : (Int × Z × Nat × Nat) ⊕ ((Z × Nat × Nat)) → Prop} {post : Option Sv ⊕ String → Hp → Prop} (r_x2 : R32 x2) (r_x3 : R32 x3) (r_x5 : R32 x5) (hw : Wz z)  (hl : ∀ (x5 : Int) (z : Z) (c : Nat) (s : Nat), P (.inl (x5, z, c, s)) → Wz z → R32 x5 → J mX11_shifted 6 c s post 22 [some (vr (some t0)), some (vr (x1)), some (ii (x2)), some (ii (x3)), some (vr (x4)), some (ii (x5)), none, none] [] (cz z)) (he0 : ∀ (z : Z) (c : Nat) (s : Nat), P (.inr (z, c, s)) → Wz z → J mX11_shifted 6 c s post 88 [none, none, none, none, some (vr (x4)), none, none, none] [] (cz z)) (H : L_X11_shifted_22 t0 x1 x2 x3 x4 x5 z c s P) : J mX11_shifted 6 c s post 22 [some (vr (some t0)), some (vr (x1)), some (ii (x2)), some (ii (x3)), some (vr (x4)), some (ii (x5)), none, none] [] (cz z) := by
  unfold L_X11_shifted_22 at H
  refine j_iload (dk dt_X11_shifted 12 rfl) rfl ?_
  refine j_aload (dk dt_X11_shifted 13 rfl) rfl ?_
  obtain ⟨a_26, e_26, k_26, H⟩ := H
  refine jz_alen (t := 6) (dk dt_X11_shifted 14 rfl) e_26 k_26 (by decide) hw ?_
  refine jz_icmp_ge 88 (dk dt_X11_shifted 15 rfl) (by decide) r_x5 (r32_len hw _) H (fun H => ?_) (fun H => ?_)
  · exact j_el (he0 _ _ _ H hw) (And.intro rfl trivial)
  · refine j_aload_n (dk dt_X11_shifted 16 rfl) rfl ?_
    obtain ⟨a_31, e_31, k_31, H⟩ := H
    refine jz_getO (kz := 2) (dk dt_X11_shifted 17 rfl) fl_X11_375 rfl rfl e_31 k_31 ?_
    refine j_iload (dk dt_X11_shifted 18 rfl) rfl ?_
    obtain ⟨a_36, e_36, k_36, H⟩ := H
    obtain ⟨p_36, q_36, H⟩ := H
    refine jz_aald (t := 6) (dk dt_X11_shifted 19 rfl) e_36 k_36 (by decide) (by decide) p_36 q_36 hw ?_
    refine j_astore (dk dt_X11_shifted 20 rfl) (by decide) ?_
    refine j_aload_n (dk dt_X11_shifted 21 rfl) rfl ?_
    refine j_aload (dk dt_X11_shifted 22 rfl) rfl ?_
    obtain ⟨a_42, e_42, k_42, H⟩ := H
    refine jz_getI (kz := 8) (dk dt_X11_shifted 23 rfl) fl_X11_413 rfl rfl e_42 k_42 ?_
    obtain ⟨k_45, H⟩ := H
    refine jz_callV1 (dk dt_X11_shifted 24 rfl) vl_X11_312 rfl (T_X11_sheetOf (hw.1 _ _) hw H) k_45 rfl (by decide) (Nat.zero_le _) (Nat.zero_le _) (Nat.le_of_ble_eq_true rfl) (fun v_45 h_45 P_45 => ?_)
    obtain ⟨x_45, rfl, rfl, H⟩ := P_45
    dsimp only [rs]
    refine j_astore (dk dt_X11_shifted 25 rfl) (by decide) ?_
    refine j_aload (dk dt_X11_shifted 26 rfl) rfl ?_
    refine j_iload (dk dt_X11_shifted 27 rfl) rfl ?_
    refine j_aload (dk dt_X11_shifted 28 rfl) rfl ?_
    refine jz_callV0 (dk dt_X11_shifted 29 rfl) vl_X11_416 e_42 (T_X4_isPlace hw H) k_42 rfl (by decide) (Nat.zero_le _) (Nat.zero_le _) (Nat.le_of_ble_eq_true rfl) (fun v_56 h_56 P_56 => ?_)
    obtain ⟨x_56, rfl, r_56, rfl, H⟩ := P_56
    dsimp only [rs]
    refine jz_if_eq 79 (dk dt_X11_shifted 30 rfl) (by decide) r_56 H (fun H => ?_) (fun H => ?_)
    · exact j_el (T_X11_shifted_79 r_x2 r_x3 r_x5 r_x5 hw  hl he0 H) (And.intro rfl (And.intro rfl (And.intro rfl (And.intro rfl (And.intro rfl (And.intro rfl (And.intro rfl trivial)))))))
    · refine j_aload (dk dt_X11_shifted 31 rfl) rfl ?_
      refine jz_ifnull 79 (dk dt_X11_shifted 32 rfl) (by decide) H (fun H => ?_) (fun H => ?_)
      · exact j_el (T_X11_shifted_79 r_x2 r_x3 r_x5 r_x5 hw  hl he0 H) (And.intro rfl (And.intro rfl (And.intro rfl (And.intro rfl (And.intro rfl (And.intro rfl (And.intro rfl trivial)))))))
      · refine j_aload (dk dt_X11_shifted 33 rfl) rfl ?_
        refine j_aload (dk dt_X11_shifted 34 rfl) rfl ?_
        refine j_iload_n (dk dt_X11_shifted 35 rfl) rfl ?_
        refine j_iload_n (dk dt_X11_shifted 36 rfl) rfl ?_
        obtain ⟨c_73, s_73, hc_73, hs_73, H⟩ := H
        refine jz_callV3 (dk dt_X11_shifted 37 rfl) vl_X11_419 e_42 (T_X4_shifted r_x2 r_x3 hw H) k_42 rfl (by decide) hc_73 hs_73 (Nat.le_of_ble_eq_true rfl) (fun v_73 h_73 P_73 => ?_)
        obtain ⟨x_73, z_73, rfl, rfl, w_73, H⟩ := P_73
        dsimp only [rs]
        refine j_goto 81 (dk dt_X11_shifted 38 rfl) (by decide) ?_
        exact j_el (T_X11_shifted_81 r_x2 r_x3 r_x5 r_x5 w_73  hl he0 H) (And.intro rfl (And.intro rfl (And.intro rfl (And.intro rfl (And.intro rfl (And.intro rfl trivial))))))
def F_X11_shifted_22  (t0 : Nat) (x1 : Option Nat) (x2 : Int) (x3 : Int) (x4 : Option Nat) (x5 : Int) (z : Z) (c : Nat) (s : Nat) (P : Option Nat → Z → Prop) : Prop :=
  lp (S := Int × Z × Nat × Nat) (E := (Z × Nat × Nat)) (fun q P_ => L_X11_shifted_22 t0 x1 x2 x3 x4 q.1 q.2.1 q.2.2.1 q.2.2.2 P_) (x5, z, c, s) (fun e => match e with | (z, c, s) => (1 ≤ c ∧ 3 ≤ s ∧ ∀ a_88, zK z a_88 = 0 → (∀ z_88, z_88 = nZ z a_88 2 0 → F_X1_init a_88 5 none x4 z_88 (fun z_96 => P (some a_88) z_96))))
theorem T_X11_shifted_22  {t0 : Nat} {x1 : Option Nat} {x2 : Int} {x3 : Int} {x4 : Option Nat} {x5 : Int} {z : Z} {c : Nat} {s : Nat} {P : Option Nat → Z → Prop} (r_x2 : R32 x2) (r_x3 : R32 x3) (r_x5 : R32 x5) (hw : Wz z)   (H : F_X11_shifted_22 t0 x1 x2 x3 x4 x5 z c s P) : J mX11_shifted 6 c s (nx (QZA P)) 22 [some (vr (some t0)), some (vr (x1)), some (ii (x2)), some (ii (x3)), some (vr (x4)), some (ii (x5)), none, none] [] (cz z) := by
  unfold F_X11_shifted_22 at H
  refine lp_J (G := fun q => Wz (q.2.1) → R32 (q.1) → J mX11_shifted 6 (q.2.2.1) (q.2.2.2) (nx (QZA P)) 22 [some (vr (some t0)), some (vr (x1)), some (ii (x2)), some (ii (x3)), some (vr (x4)), some (ii ((q.1))), none, none] [] (cz (q.2.1))) (fun q P_ hl_ he_ Hb => ?_) (x5, z, c, s) H hw r_x5
  obtain ⟨x5, z, c, s⟩ := q
  intro hw r_x5
  refine U_X11_shifted_22 (P := P_) r_x2 r_x3 r_x5 hw  (fun x5 z c s Hp hw r_x5 => hl_ (x5, z, c, s) Hp hw r_x5) ?_ Hb
  · intro z c s Hp hw
    have H := he_ _ Hp
    obtain ⟨hc_88, hs_88, H⟩ := H
    refine jz_new (dk dt_X11_shifted 43 rfl) cl_1 nl_X11_373 iw_1 zw_1 rfl hc_88 hs_88 hw (fun a_88 e_88 w_88 => ?_)
    replace H := H a_88 e_88
    replace H := H _ rfl
    refine j_dup (dk dt_X11_shifted 44 rfl) rfl ?_
    refine j_iconst (v := Int32.ofInt 5) (dk dt_X11_shifted 45 rfl) (by decide) ?_
    refine j_null (dk dt_X11_shifted 46 rfl) ?_
    refine j_aload (dk dt_X11_shifted 47 rfl) rfl ?_
    refine jz_callI3 (dk dt_X11_shifted 48 rfl) il_X11_422 rfl (T_X1_init (by decide) w_88 H) rfl (by decide) (Nat.zero_le _) (Nat.zero_le _) (Nat.le_of_ble_eq_true rfl) (fun v_96 h_96 P_96 => ?_)
    obtain ⟨z_96, rfl, rfl, w_96, H⟩ := P_96
    dsimp only [rs]
    exact j_areturn (dk dt_X11_shifted 49 rfl) rfl rfl ⟨_, _, rfl, rfl, w_96, H⟩
def F_X11_shifted  (t0 : Nat) (x1 : Option Nat) (x2 : Int) (x3 : Int) (z : Z) (c : Nat) (s : Nat) (P : Option Nat → Z → Prop) : Prop :=
  F_X11_isFormula x1 z (fun x_1 => (if x_1 = 0 then P x1 z else (∃ a_10, x1 = some a_10 ∧ zK z a_10 = 2 ∧ (∃ a_13, zO z a_10 2 = some a_13 ∧ zK z a_13 = 20 ∧ (0 ≤ zN z a_13 ∧ zN z a_13 < (33554432 : Int) ∧ 1 ≤ c ∧ Int.toNat (zN z a_13) ≤ s ∧ ∀ a_14, zK z a_14 = 0 → (∀ z_14, z_14 = nZ z a_14 20 (zN z a_13) → F_X11_shifted_22 t0 x1 x2 x3 (some a_14) 0 z_14 (c - 1) (s - Int.toNat (zN z a_13)) P))))))
theorem T_X11_shifted  {t0 : Nat} {x1 : Option Nat} {x2 : Int} {x3 : Int} {z : Z} {c : Nat} {s : Nat} {P : Option Nat → Z → Prop} (r_x2 : R32 x2) (r_x3 : R32 x3) (hw : Wz z)  (H : F_X11_shifted t0 x1 x2 x3 z c s P) : Con mX11_shifted 6 c s [vr (some t0), vr (x1), ii (x2), ii (x3)] (cz z) (QZA P) := by
  refine con_of rfl (Nat.le_of_ble_eq_true rfl) (by decide) ?_
  show J mX11_shifted 6 c s _ 0 [some (vr (some t0)), some (vr (x1)), some (ii (x2)), some (ii (x3)), none, none, none, none] [] (cz z)
  unfold F_X11_shifted at H
  refine j_aload_n (dk dt_X11_shifted 0 rfl) rfl ?_
  refine j_callS1 (dk dt_X11_shifted 1 rfl) sl_X11_407 (T_X11_isFormula hw H) rfl (by decide) (Nat.zero_le _) (Nat.zero_le _) (Nat.le_of_ble_eq_true rfl) (fun v_1 h_1 P_1 => ?_)
  obtain ⟨x_1, rfl, r_1, rfl, H⟩ := P_1
  dsimp only [rs]
  refine jz_if_ne 9 (dk dt_X11_shifted 2 rfl) (by decide) r_1 H (fun H => ?_) (fun H => ?_)
  · refine j_aload_n (dk dt_X11_shifted 3 rfl) rfl ?_
    exact j_areturn (dk dt_X11_shifted 4 rfl) rfl rfl ⟨_, _, rfl, rfl, hw, H⟩
  · refine j_aload_n (dk dt_X11_shifted 5 rfl) rfl ?_
    obtain ⟨a_10, e_10, k_10, H⟩ := H
    refine jz_getO (kz := 2) (dk dt_X11_shifted 6 rfl) fl_X11_375 rfl rfl e_10 k_10 ?_
    obtain ⟨a_13, e_13, k_13, H⟩ := H
    refine jz_alen (t := 6) (dk dt_X11_shifted 7 rfl) e_13 k_13 (by decide) hw ?_
    obtain ⟨p_14, q_14, hc_14, hs_14, H⟩ := H
    refine jz_newQ (t := 6) (dk dt_X11_shifted 8 rfl) nl_X11_411 ao_4 (by decide) (fun _ => rfl) p_14 q_14 hc_14 hs_14 hw (fun a_14 e_14 w_14 => ?_)
    replace H := H a_14 e_14
    replace H := H _ rfl
    refine j_astore (dk dt_X11_shifted 9 rfl) (by decide) ?_
    refine j_iconst (v := Int32.ofInt 0) (dk dt_X11_shifted 10 rfl) (by decide) ?_
    refine j_istore (dk dt_X11_shifted 11 rfl) (by decide) ?_
    exact j_el (T_X11_shifted_22 r_x2 r_x3 (by decide) w_14   H) (And.intro rfl (And.intro rfl (And.intro rfl (And.intro rfl (And.intro rfl (And.intro rfl trivial))))))
def F_X11_copy_39  (z : Z) (c : Nat) (s : Nat) (P : Int → Z → Prop) (X : Nat → Z → Prop) : Prop :=
  (1 ≤ c ∧ 6 ≤ s ∧ X 0 z)
theorem T_X11_copy_39  {z : Z} {c : Nat} {s : Nat} {P : Int → Z → Prop} {X : Nat → Z → Prop}  (hw : Wz z)   (H : F_X11_copy_39 z c s P X) : J mX11_copy 7 c s (QX (QZI P) X) 39 [none, none, none, none, none, none, none, none, none, none, none, none, none, none] [] (cz z) := by
  unfold F_X11_copy_39 at H
  obtain ⟨hc_, hs_, H⟩ := H
  exact j_throw (E := "java/lang/IndexOutOfBoundsException") ⟨117, 119, by decide, (dk dt_X11_copy 18 rfl), (dk dt_X11_copy 19 rfl), (dk dt_X11_copy 20 rfl), (dk dt_X11_copy 21 rfl)⟩ hc_ hs_ (Nat.le_of_ble_eq_true rfl) ⟨0, _, rfl, rfl, hw, H⟩
def F_X11_copy_58  (z : Z) (c : Nat) (s : Nat) (P : Int → Z → Prop) (X : Nat → Z → Prop) : Prop :=
  (1 ≤ c ∧ 6 ≤ s ∧ X 1 z)
theorem T_X11_copy_58  {z : Z} {c : Nat} {s : Nat} {P : Int → Z → Prop} {X : Nat → Z → Prop}  (hw : Wz z)   (H : F_X11_copy_58 z c s P X) : J mX11_copy 7 c s (QX (QZI P) X) 58 [none, none, none, none, none, none, none, none, none, none, none, none, none, none] [] (cz z) := by
  unfold F_X11_copy_58 at H
  obtain ⟨hc_, hs_, H⟩ := H
  exact j_throw (E := "java/lang/IllegalArgumentException") ⟨127, 129, by decide, (dk dt_X11_copy 28 rfl), (dk dt_X11_copy 29 rfl), (dk dt_X11_copy 30 rfl), (dk dt_X11_copy 31 rfl)⟩ hc_ hs_ (Nat.le_of_ble_eq_true rfl) ⟨1, _, rfl, rfl, hw, H⟩
def L_X11_copy_174  (t0 : Nat) (x1 : Int) (x2 : Int) (x5 : Int) (x6 : Int) (x7 : Int) (x8 : Int) (x10 : Option Nat) (x11 : Int) (x12 : Int) (z : Z) (c : Nat) (s : Nat) (P : (Int × Z × Nat × Nat) ⊕ ((Z × Nat × Nat)) → Prop) : Prop :=
  (if x8 ≤ x12 then P (.inr (z, c, s)) else (zK z t0 = 12 ∧ (∃ a_193, zO z t0 11 = some a_193 ∧ zK z a_193 = 7 ∧ F_X6_at a_193 (w32 (x1 + x11)) (w32 (x2 + x12)) z (fun x_193 => (∃ c_221 s_221, c_221 ≤ c ∧ s_221 ≤ s ∧ F_X11_shifted t0 x_193 (w32 (x5 - x1)) (w32 (x6 - x2)) z c_221 s_221 (fun x_221 z_221 => (∃ a_224, x10 = some a_224 ∧ zK z_221 a_224 = 7 ∧ F_X6_put a_224 (w32 (x5 + x11)) (w32 (x6 + x12)) x_221 z_221 (fun z_224 => P (.inl (w32 (x12 + 1), z_224, c - c_221, s - s_221))))))))))
theorem U_X11_copy_174  {t0 : Nat} {x1 : Int} {x2 : Int} {x5 : Int} {x6 : Int} {x7 : Int} {x8 : Int} {x10 : Option Nat} {x11 : Int} {x12 : Int} {z : Z} {c : Nat} {s : Nat} {P : (Int × Z × Nat × Nat) ⊕ ((Z × Nat × Nat)) → Prop} {post : Option Sv ⊕ String → Hp → Prop} (r_x1 : R32 x1) (r_x2 : R32 x2) (r_x5 : R32 x5) (r_x6 : R32 x6) (r_x7 : R32 x7) (r_x8 : R32 x8) (r_x11 : R32 x11) (r_x12 : R32 x12) (hw : Wz z)  (hl : ∀ (x12 : Int) (z : Z) (c : Nat) (s : Nat), P (.inl (x12, z, c, s)) → Wz z → R32 x12 → J mX11_copy 7 c s post 174 [some (vr (some t0)), some (ii (x1)), some (ii (x2)), none, none, some (ii (x5)), some (ii (x6)), some (ii (x7)), some (ii (x8)), none, some (vr (x10)), some (ii (x11)), some (ii (x12)), none] [] (cz z)) (he0 : ∀ (z : Z) (c : Nat) (s : Nat), P (.inr (z, c, s)) → Wz z → J mX11_copy 7 c s post 233 [some (vr (some t0)), some (ii (x1)), some (ii (x2)), none, none, some (ii (x5)), some (ii (x6)), some (ii (x7)), some (ii (x8)), none, some (vr (x10)), some (ii (x11)), none, none] [] (cz z)) (H : L_X11_copy_174 t0 x1 x2 x5 x6 x7 x8 x10 x11 x12 z c s P) : J mX11_copy 7 c s post 174 [some (vr (some t0)), some (ii (x1)), some (ii (x2)), none, none, some (ii (x5)), some (ii (x6)), some (ii (x7)), some (ii (x8)), none, some (vr (x10)), some (ii (x11)), some (ii (x12)), none] [] (cz z) := by
  unfold L_X11_copy_174 at H
  refine j_iload (dk dt_X11_copy 92 rfl) rfl ?_
  refine j_iload (dk dt_X11_copy 93 rfl) rfl ?_
  refine jz_icmp_ge 233 (dk dt_X11_copy 94 rfl) (by decide) r_x12 r_x8 H (fun H => ?_) (fun H => ?_)
  · exact j_el (he0 _ _ _ H hw) (And.intro rfl (And.intro rfl (And.intro rfl (And.intro rfl (And.intro rfl (And.intro rfl (And.intro rfl (And.intro rfl (And.intro rfl trivial)))))))))
  · refine j_aload_n (dk dt_X11_copy 95 rfl) rfl ?_
    obtain ⟨k_182, H⟩ := H
    refine jz_getO (kz := 11) (dk dt_X11_copy 96 rfl) fl_X11_104 rfl rfl rfl k_182 ?_
    refine j_iload_n (dk dt_X11_copy 97 rfl) rfl ?_
    refine j_iload (dk dt_X11_copy 98 rfl) rfl ?_
    refine jz_iadd (dk dt_X11_copy 99 rfl) ?_
    refine j_iload_n (dk dt_X11_copy 100 rfl) rfl ?_
    refine j_iload (dk dt_X11_copy 101 rfl) rfl ?_
    refine jz_iadd (dk dt_X11_copy 102 rfl) ?_
    obtain ⟨a_193, e_193, k_193, H⟩ := H
    refine jz_callV2 (dk dt_X11_copy 103 rfl) vl_X11_152 e_193 (T_X6_at (r32_w _) (r32_w _) hw H) k_193 rfl (by decide) (Nat.zero_le _) (Nat.zero_le _) (Nat.le_of_ble_eq_true rfl) (fun v_193 h_193 P_193 => ?_)
    obtain ⟨x_193, rfl, rfl, H⟩ := P_193
    dsimp only [rs]
    refine j_astore (dk dt_X11_copy 104 rfl) (by decide) ?_
    refine j_aload (dk dt_X11_copy 105 rfl) rfl ?_
    refine j_iload (dk dt_X11_copy 106 rfl) rfl ?_
    refine j_iload (dk dt_X11_copy 107 rfl) rfl ?_
    refine jz_iadd (dk dt_X11_copy 108 rfl) ?_
    refine j_iload (dk dt_X11_copy 109 rfl) rfl ?_
    refine j_iload (dk dt_X11_copy 110 rfl) rfl ?_
    refine jz_iadd (dk dt_X11_copy 111 rfl) ?_
    refine j_aload_n (dk dt_X11_copy 112 rfl) rfl ?_
    refine j_aload (dk dt_X11_copy 113 rfl) rfl ?_
    refine j_iload (dk dt_X11_copy 114 rfl) rfl ?_
    refine j_iload_n (dk dt_X11_copy 115 rfl) rfl ?_
    refine jz_isub (dk dt_X11_copy 116 rfl) ?_
    refine j_iload (dk dt_X11_copy 117 rfl) rfl ?_
    refine j_iload_n (dk dt_X11_copy 118 rfl) rfl ?_
    refine jz_isub (dk dt_X11_copy 119 rfl) ?_
    obtain ⟨c_221, s_221, hc_221, hs_221, H⟩ := H
    refine jz_callV3 (dk dt_X11_copy 120 rfl) vl_X11_204 rfl (T_X11_shifted (r32_w _) (r32_w _) hw H) k_182 rfl (by decide) hc_221 hs_221 (Nat.le_of_ble_eq_true rfl) (fun v_221 h_221 P_221 => ?_)
    obtain ⟨x_221, z_221, rfl, rfl, w_221, H⟩ := P_221
    dsimp only [rs]
    obtain ⟨a_224, e_224, k_224, H⟩ := H
    refine jz_callV3 (dk dt_X11_copy 121 rfl) vl_X11_141 e_224 (T_X6_put (r32_w _) (r32_w _) w_221 H) k_224 rfl (by decide) (Nat.zero_le _) (Nat.zero_le _) (Nat.le_of_ble_eq_true rfl) (fun v_224 h_224 P_224 => ?_)
    obtain ⟨z_224, rfl, rfl, w_224, H⟩ := P_224
    dsimp only [rs]
    refine jz_iinc (dk dt_X11_copy 122 rfl) rfl ?_
    refine j_goto 174 (dk dt_X11_copy 123 rfl) (by decide) ?_
    exact j_el (hl _ _ _ _ H w_224 (r32_w _)) (And.intro rfl (And.intro rfl (And.intro rfl (And.intro rfl (And.intro rfl (And.intro rfl (And.intro rfl (And.intro rfl (And.intro rfl (And.intro rfl trivial))))))))))
def F_X11_copy_174  (t0 : Nat) (x1 : Int) (x2 : Int) (x5 : Int) (x6 : Int) (x7 : Int) (x8 : Int) (x10 : Option Nat) (x11 : Int) (x12 : Int) (z : Z) (c : Nat) (s : Nat) (P : (Int × Z × Nat × Nat) ⊕ ((Z × Nat × Nat)) → Prop) : Prop :=
  lp (S := Int × Z × Nat × Nat) (E := (Z × Nat × Nat)) (fun q P_ => L_X11_copy_174 t0 x1 x2 x5 x6 x7 x8 x10 x11 q.1 q.2.1 q.2.2.1 q.2.2.2 P_) (x12, z, c, s) (fun e => match e with | (z, c, s) => P (.inl (w32 (x11 + 1), z, c, s)))
theorem T_X11_copy_174  {t0 : Nat} {x1 : Int} {x2 : Int} {x5 : Int} {x6 : Int} {x7 : Int} {x8 : Int} {x10 : Option Nat} {x11 : Int} {x12 : Int} {z : Z} {c : Nat} {s : Nat} {P : (Int × Z × Nat × Nat) ⊕ ((Z × Nat × Nat)) → Prop} {post : Option Sv ⊕ String → Hp → Prop} (r_x1 : R32 x1) (r_x2 : R32 x2) (r_x5 : R32 x5) (r_x6 : R32 x6) (r_x7 : R32 x7) (r_x8 : R32 x8) (r_x11 : R32 x11) (r_x12 : R32 x12) (hw : Wz z)  (hl : ∀ (x11 : Int) (z : Z) (c : Nat) (s : Nat), P (.inl (x11, z, c, s)) → Wz z → R32 x11 → J mX11_copy 7 c s post 164 [some (vr (some t0)), some (ii (x1)), some (ii (x2)), none, none, some (ii (x5)), some (ii (x6)), some (ii (x7)), some (ii (x8)), none, some (vr (x10)), some (ii (x11)), none, none] [] (cz z)) (he0 : ∀ (z : Z) (c : Nat) (s : Nat), P (.inr (z, c, s)) → Wz z → J mX11_copy 7 c s post 239 [some (vr (some t0)), none, none, none, none, none, none, some (ii (x7)), some (ii (x8)), none, some (vr (x10)), none, none, none] [] (cz z)) (H : F_X11_copy_174 t0 x1 x2 x5 x6 x7 x8 x10 x11 x12 z c s P) : J mX11_copy 7 c s (post) 174 [some (vr (some t0)), some (ii (x1)), some (ii (x2)), none, none, some (ii (x5)), some (ii (x6)), some (ii (x7)), some (ii (x8)), none, some (vr (x10)), some (ii (x11)), some (ii (x12)), none] [] (cz z) := by
  unfold F_X11_copy_174 at H
  refine lp_J (G := fun q => Wz (q.2.1) → R32 (q.1) → J mX11_copy 7 (q.2.2.1) (q.2.2.2) (post) 174 [some (vr (some t0)), some (ii (x1)), some (ii (x2)), none, none, some (ii (x5)), some (ii (x6)), some (ii (x7)), some (ii (x8)), none, some (vr (x10)), some (ii (x11)), some (ii ((q.1))), none] [] (cz (q.2.1))) (fun q P_ hl_ he_ Hb => ?_) (x12, z, c, s) H hw r_x12
  obtain ⟨x12, z, c, s⟩ := q
  intro hw r_x12
  refine U_X11_copy_174 (P := P_) r_x1 r_x2 r_x5 r_x6 r_x7 r_x8 r_x11 r_x12 hw  (fun x12 z c s Hp hw r_x12 => hl_ (x12, z, c, s) Hp hw r_x12) ?_ Hb
  · intro z c s Hp hw
    have H := he_ _ Hp
    refine jz_iinc (dk dt_X11_copy 124 rfl) rfl ?_
    refine j_goto 164 (dk dt_X11_copy 125 rfl) (by decide) ?_
    exact j_el (hl _ _ _ _ H hw (r32_w _)) (And.intro rfl (And.intro rfl (And.intro rfl (And.intro rfl (And.intro rfl (And.intro rfl (And.intro rfl (And.intro rfl (And.intro rfl trivial)))))))))
def L_X11_copy_164  (t0 : Nat) (x1 : Int) (x2 : Int) (x5 : Int) (x6 : Int) (x7 : Int) (x8 : Int) (x10 : Option Nat) (x11 : Int) (z : Z) (c : Nat) (s : Nat) (P : (Int × Z × Nat × Nat) ⊕ ((Z × Nat × Nat)) → Prop) : Prop :=
  (if x7 ≤ x11 then P (.inr (z, c, s)) else F_X11_copy_174 t0 x1 x2 x5 x6 x7 x8 x10 x11 0 z c s P)
theorem U_X11_copy_164  {t0 : Nat} {x1 : Int} {x2 : Int} {x5 : Int} {x6 : Int} {x7 : Int} {x8 : Int} {x10 : Option Nat} {x11 : Int} {z : Z} {c : Nat} {s : Nat} {P : (Int × Z × Nat × Nat) ⊕ ((Z × Nat × Nat)) → Prop} {post : Option Sv ⊕ String → Hp → Prop} (r_x1 : R32 x1) (r_x2 : R32 x2) (r_x5 : R32 x5) (r_x6 : R32 x6) (r_x7 : R32 x7) (r_x8 : R32 x8) (r_x11 : R32 x11) (hw : Wz z)  (hl : ∀ (x11 : Int) (z : Z) (c : Nat) (s : Nat), P (.inl (x11, z, c, s)) → Wz z → R32 x11 → J mX11_copy 7 c s post 164 [some (vr (some t0)), some (ii (x1)), some (ii (x2)), none, none, some (ii (x5)), some (ii (x6)), some (ii (x7)), some (ii (x8)), none, some (vr (x10)), some (ii (x11)), none, none] [] (cz z)) (he0 : ∀ (z : Z) (c : Nat) (s : Nat), P (.inr (z, c, s)) → Wz z → J mX11_copy 7 c s post 239 [some (vr (some t0)), none, none, none, none, none, none, some (ii (x7)), some (ii (x8)), none, some (vr (x10)), none, none, none] [] (cz z)) (H : L_X11_copy_164 t0 x1 x2 x5 x6 x7 x8 x10 x11 z c s P) : J mX11_copy 7 c s post 164 [some (vr (some t0)), some (ii (x1)), some (ii (x2)), none, none, some (ii (x5)), some (ii (x6)), some (ii (x7)), some (ii (x8)), none, some (vr (x10)), some (ii (x11)), none, none] [] (cz z) := by
  unfold L_X11_copy_164 at H
  refine j_iload (dk dt_X11_copy 87 rfl) rfl ?_
  refine j_iload (dk dt_X11_copy 88 rfl) rfl ?_
  refine jz_icmp_ge 239 (dk dt_X11_copy 89 rfl) (by decide) r_x11 r_x7 H (fun H => ?_) (fun H => ?_)
  · exact j_el (he0 _ _ _ H hw) (And.intro rfl (And.intro rfl (And.intro rfl (And.intro rfl trivial))))
  · refine j_iconst (v := Int32.ofInt 0) (dk dt_X11_copy 90 rfl) (by decide) ?_
    refine j_istore (dk dt_X11_copy 91 rfl) (by decide) ?_
    exact j_el (T_X11_copy_174 r_x1 r_x2 r_x5 r_x6 r_x7 r_x8 r_x11 (by decide) hw  hl he0 H) (And.intro rfl (And.intro rfl (And.intro rfl (And.intro rfl (And.intro rfl (And.intro rfl (And.intro rfl (And.intro rfl (And.intro rfl (And.intro rfl trivial))))))))))
def F_X11_copy_164  (t0 : Nat) (x1 : Int) (x2 : Int) (x5 : Int) (x6 : Int) (x7 : Int) (x8 : Int) (x10 : Option Nat) (x11 : Int) (z : Z) (c : Nat) (s : Nat) (P : Int → Z → Prop) (X : Nat → Z → Prop) : Prop :=
  lp (S := Int × Z × Nat × Nat) (E := (Z × Nat × Nat)) (fun q P_ => L_X11_copy_164 t0 x1 x2 x5 x6 x7 x8 x10 q.1 q.2.1 q.2.2.1 q.2.2.2 P_) (x11, z, c, s) (fun e => match e with | (z, c, s) => (zK z t0 = 12 ∧ F_X11_step t0 x10 z (fun z_242 => P (w32 (x7 * x8)) z_242)))
theorem T_X11_copy_164  {t0 : Nat} {x1 : Int} {x2 : Int} {x5 : Int} {x6 : Int} {x7 : Int} {x8 : Int} {x10 : Option Nat} {x11 : Int} {z : Z} {c : Nat} {s : Nat} {P : Int → Z → Prop} {X : Nat → Z → Prop} (r_x1 : R32 x1) (r_x2 : R32 x2) (r_x5 : R32 x5) (r_x6 : R32 x6) (r_x7 : R32 x7) (r_x8 : R32 x8) (r_x11 : R32 x11) (hw : Wz z)   (H : F_X11_copy_164 t0 x1 x2 x5 x6 x7 x8 x10 x11 z c s P X) : J mX11_copy 7 c s (QX (QZI P) X) 164 [some (vr (some t0)), some (ii (x1)), some (ii (x2)), none, none, some (ii (x5)), some (ii (x6)), some (ii (x7)), some (ii (x8)), none, some (vr (x10)), some (ii (x11)), none, none] [] (cz z) := by
  unfold F_X11_copy_164 at H
  refine lp_J (G := fun q => Wz (q.2.1) → R32 (q.1) → J mX11_copy 7 (q.2.2.1) (q.2.2.2) (QX (QZI P) X) 164 [some (vr (some t0)), some (ii (x1)), some (ii (x2)), none, none, some (ii (x5)), some (ii (x6)), some (ii (x7)), some (ii (x8)), none, some (vr (x10)), some (ii ((q.1))), none, none] [] (cz (q.2.1))) (fun q P_ hl_ he_ Hb => ?_) (x11, z, c, s) H hw r_x11
  obtain ⟨x11, z, c, s⟩ := q
  intro hw r_x11
  refine U_X11_copy_164 (P := P_) r_x1 r_x2 r_x5 r_x6 r_x7 r_x8 r_x11 hw  (fun x11 z c s Hp hw r_x11 => hl_ (x11, z, c, s) Hp hw r_x11) ?_ Hb
  · intro z c s Hp hw
    have H := he_ _ Hp
    refine j_aload_n (dk dt_X11_copy 126 rfl) rfl ?_
    refine j_aload (dk dt_X11_copy 127 rfl) rfl ?_
    obtain ⟨k_242, H⟩ := H
    refine jz_callV1 (dk dt_X11_copy 128 rfl) vl_X11_145 rfl (T_X11_step hw H) k_242 rfl (by decide) (Nat.zero_le _) (Nat.zero_le _) (Nat.le_of_ble_eq_true rfl) (fun v_242 h_242 P_242 => ?_)
    obtain ⟨z_242, rfl, rfl, w_242, H⟩ := P_242
    dsimp only [rs]
    refine j_iload (dk dt_X11_copy 129 rfl) rfl ?_
    refine j_iload (dk dt_X11_copy 130 rfl) rfl ?_
    refine jz_imul (dk dt_X11_copy 131 rfl) ?_
    exact j_ireturn (dk dt_X11_copy 132 rfl) rfl rfl ⟨_, _, rfl, (r32_w _), rfl, w_242, H⟩
def F_X11_copy  (t0 : Nat) (x1 : Int) (x2 : Int) (x3 : Int) (x4 : Int) (x5 : Int) (x6 : Int) (z : Z) (c : Nat) (s : Nat) (P : Int → Z → Prop) (X : Nat → Z → Prop) : Prop :=
  (zK z t0 = 12 ∧ (∃ a_6, zO z t0 11 = some a_6 ∧ zK z a_6 = 7 ∧ F_X6_has a_6 x1 x2 z (fun x_6 => (if x_6 = 0 then F_X11_copy_39 z c s P X else F_X6_has a_6 x3 x4 z (fun x_19 => (if x_19 = 0 then F_X11_copy_39 z c s P X else F_X6_has a_6 x5 x6 z (fun x_33 => (if x_33 = 0 then F_X11_copy_39 z c s P X else (if x3 < x1 then F_X11_copy_58 z c s P X else (if x2 ≤ x4 then (∃ a_76, zO z a_6 0 = some a_76 ∧ zK z a_76 = 15 ∧ (∃ a_98, zO z a_6 1 = some a_98 ∧ zK z a_98 = 15 ∧ F_X11_partsWithin t0 x1 x2 (w32 (min (w32 (x3 - x1)) (w32 ((zN z a_76) - x5)) + 1)) (w32 (min (w32 (x4 - x2)) (w32 ((zN z a_98) - x6)) + 1)) z (fun x_116 => (if x_116 ≤ w32 (60000 - (zI z t0 14)) then (∀ z_149, z_149 = wI z t0 14 (w32 (zI z t0 14 + x_116)) → (∃ a_156, zO z_149 t0 11 = some a_156 ∧ zK z_149 a_156 = 7 ∧ (∃ c_156 s_156, c_156 ≤ c ∧ s_156 ≤ s ∧ F_X6_twin a_156 z_149 c_156 s_156 (fun x_156 z_156 => F_X11_copy_164 t0 x1 x2 x5 x6 (w32 (min (w32 (x3 - x1)) (w32 ((zN z a_76) - x5)) + 1)) (w32 (min (w32 (x4 - x2)) (w32 ((zN z a_98) - x6)) + 1)) x_156 0 z_156 (c - c_156) (s - s_156) P X)))) else (1 ≤ c ∧ 6 ≤ s ∧ X 2 z))))) else F_X11_copy_58 z c s P X))))))))))
theorem T_X11_copy  {t0 : Nat} {x1 : Int} {x2 : Int} {x3 : Int} {x4 : Int} {x5 : Int} {x6 : Int} {z : Z} {c : Nat} {s : Nat} {P : Int → Z → Prop} {X : Nat → Z → Prop} (r_x1 : R32 x1) (r_x2 : R32 x2) (r_x3 : R32 x3) (r_x4 : R32 x4) (r_x5 : R32 x5) (r_x6 : R32 x6) (hw : Wz z)  (H : F_X11_copy t0 x1 x2 x3 x4 x5 x6 z c s P X) : ConX mX11_copy 7 c s [vr (some t0), ii (x1), ii (x2), ii (x3), ii (x4), ii (x5), ii (x6)] (cz z) (QX (QZI P) X) := by
  refine con_ofX rfl (Nat.le_of_ble_eq_true rfl) (by decide) (by decide) ?_
  show J mX11_copy 7 c s _ 0 [some (vr (some t0)), some (ii (x1)), some (ii (x2)), some (ii (x3)), some (ii (x4)), some (ii (x5)), some (ii (x6)), none, none, none, none, none, none, none] [] (cz z)
  unfold F_X11_copy at H
  refine j_aload_n (dk dt_X11_copy 0 rfl) rfl ?_
  obtain ⟨k_1, H⟩ := H
  refine jz_getO (kz := 11) (dk dt_X11_copy 1 rfl) fl_X11_104 rfl rfl rfl k_1 ?_
  refine j_iload_n (dk dt_X11_copy 2 rfl) rfl ?_
  refine j_iload_n (dk dt_X11_copy 3 rfl) rfl ?_
  obtain ⟨a_6, e_6, k_6, H⟩ := H
  refine jz_callV2 (dk dt_X11_copy 4 rfl) vl_X11_113 e_6 (T_X6_has r_x1 r_x2 hw H) k_6 rfl (by decide) (Nat.zero_le _) (Nat.zero_le _) (Nat.le_of_ble_eq_true rfl) (fun v_6 h_6 P_6 => ?_)
  obtain ⟨x_6, rfl, r_6, rfl, H⟩ := P_6
  dsimp only [rs]
  refine jz_if_eq 39 (dk dt_X11_copy 5 rfl) (by decide) r_6 H (fun H => ?_) (fun H => ?_)
  · exact j_el (T_X11_copy_39  hw   H) trivial
  · refine j_aload_n (dk dt_X11_copy 6 rfl) rfl ?_
    refine jz_getO (kz := 11) (dk dt_X11_copy 7 rfl) fl_X11_104 rfl rfl rfl k_1 ?_
    refine j_iload_n (dk dt_X11_copy 8 rfl) rfl ?_
    refine j_iload (dk dt_X11_copy 9 rfl) rfl ?_
    refine jz_callV2 (dk dt_X11_copy 10 rfl) vl_X11_113 e_6 (T_X6_has r_x3 r_x4 hw H) k_6 rfl (by decide) (Nat.zero_le _) (Nat.zero_le _) (Nat.le_of_ble_eq_true rfl) (fun v_19 h_19 P_19 => ?_)
    obtain ⟨x_19, rfl, r_19, rfl, H⟩ := P_19
    dsimp only [rs]
    refine jz_if_eq 39 (dk dt_X11_copy 11 rfl) (by decide) r_19 H (fun H => ?_) (fun H => ?_)
    · exact j_el (T_X11_copy_39  hw   H) trivial
    · refine j_aload_n (dk dt_X11_copy 12 rfl) rfl ?_
      refine jz_getO (kz := 11) (dk dt_X11_copy 13 rfl) fl_X11_104 rfl rfl rfl k_1 ?_
      refine j_iload (dk dt_X11_copy 14 rfl) rfl ?_
      refine j_iload (dk dt_X11_copy 15 rfl) rfl ?_
      refine jz_callV2 (dk dt_X11_copy 16 rfl) vl_X11_113 e_6 (T_X6_has r_x5 r_x6 hw H) k_6 rfl (by decide) (Nat.zero_le _) (Nat.zero_le _) (Nat.le_of_ble_eq_true rfl) (fun v_33 h_33 P_33 => ?_)
      obtain ⟨x_33, rfl, r_33, rfl, H⟩ := P_33
      dsimp only [rs]
      refine jz_if_ne 47 (dk dt_X11_copy 17 rfl) (by decide) r_33 H (fun H => ?_) (fun H => ?_)
      · exact j_el (T_X11_copy_39  hw   H) trivial
      · refine j_iload_n (dk dt_X11_copy 22 rfl) rfl ?_
        refine j_iload_n (dk dt_X11_copy 23 rfl) rfl ?_
        refine jz_icmp_lt 58 (dk dt_X11_copy 24 rfl) (by decide) r_x3 r_x1 H (fun H => ?_) (fun H => ?_)
        · exact j_el (T_X11_copy_58  hw   H) trivial
        · refine j_iload (dk dt_X11_copy 25 rfl) rfl ?_
          refine j_iload_n (dk dt_X11_copy 26 rfl) rfl ?_
          refine jz_icmp_ge 66 (dk dt_X11_copy 27 rfl) (by decide) r_x4 r_x2 H (fun H => ?_) (fun H => ?_)
          · refine j_iload_n (dk dt_X11_copy 32 rfl) rfl ?_
            refine j_iload_n (dk dt_X11_copy 33 rfl) rfl ?_
            refine jz_isub (dk dt_X11_copy 34 rfl) ?_
            refine j_aload_n (dk dt_X11_copy 35 rfl) rfl ?_
            refine jz_getO (kz := 11) (dk dt_X11_copy 36 rfl) fl_X11_104 rfl rfl rfl k_1 ?_
            refine jz_getO (kz := 0) (dk dt_X11_copy 37 rfl) fl_X11_190 rfl rfl e_6 k_6 ?_
            obtain ⟨a_76, e_76, k_76, H⟩ := H
            refine jz_alen (t := 1) (dk dt_X11_copy 38 rfl) e_76 k_76 (by decide) hw ?_
            refine j_iload (dk dt_X11_copy 39 rfl) rfl ?_
            refine jz_isub (dk dt_X11_copy 40 rfl) ?_
            refine jz_mmin (dk dt_X11_copy 41 rfl) sl_X11_193 (by decide) (Nat.le_of_ble_eq_true rfl) (r32_w _) (r32_w _) ?_
            refine j_iconst (v := Int32.ofInt 1) (dk dt_X11_copy 42 rfl) (by decide) ?_
            refine jz_iadd (dk dt_X11_copy 43 rfl) ?_
            refine j_istore (dk dt_X11_copy 44 rfl) (by decide) ?_
            refine j_iload (dk dt_X11_copy 45 rfl) rfl ?_
            refine j_iload_n (dk dt_X11_copy 46 rfl) rfl ?_
            refine jz_isub (dk dt_X11_copy 47 rfl) ?_
            refine j_aload_n (dk dt_X11_copy 48 rfl) rfl ?_
            refine jz_getO (kz := 11) (dk dt_X11_copy 49 rfl) fl_X11_104 rfl rfl rfl k_1 ?_
            refine jz_getO (kz := 1) (dk dt_X11_copy 50 rfl) fl_X11_197 rfl rfl e_6 k_6 ?_
            obtain ⟨a_98, e_98, k_98, H⟩ := H
            refine jz_alen (t := 1) (dk dt_X11_copy 51 rfl) e_98 k_98 (by decide) hw ?_
            refine j_iload (dk dt_X11_copy 52 rfl) rfl ?_
            refine jz_isub (dk dt_X11_copy 53 rfl) ?_
            refine jz_mmin (dk dt_X11_copy 54 rfl) sl_X11_193 (by decide) (Nat.le_of_ble_eq_true rfl) (r32_w _) (r32_w _) ?_
            refine j_iconst (v := Int32.ofInt 1) (dk dt_X11_copy 55 rfl) (by decide) ?_
            refine jz_iadd (dk dt_X11_copy 56 rfl) ?_
            refine j_istore (dk dt_X11_copy 57 rfl) (by decide) ?_
            refine j_aload_n (dk dt_X11_copy 58 rfl) rfl ?_
            refine j_iload_n (dk dt_X11_copy 59 rfl) rfl ?_
            refine j_iload_n (dk dt_X11_copy 60 rfl) rfl ?_
            refine j_iload (dk dt_X11_copy 61 rfl) rfl ?_
            refine j_iload (dk dt_X11_copy 62 rfl) rfl ?_
            refine jz_callV4 (dk dt_X11_copy 63 rfl) vl_X11_200 rfl (T_X11_partsWithin r_x1 r_x2 (r32_w _) (r32_w _) hw H) k_1 rfl (by decide) (Nat.zero_le _) (Nat.zero_le _) (Nat.le_of_ble_eq_true rfl) (fun v_116 h_116 P_116 => ?_)
            obtain ⟨x_116, rfl, r_116, rfl, H⟩ := P_116
            dsimp only [rs]
            refine j_istore (dk dt_X11_copy 64 rfl) (by decide) ?_
            refine j_iload (dk dt_X11_copy 65 rfl) rfl ?_
            refine j_ldc (v := Int32.ofInt (60000)) (dk dt_X11_copy 66 rfl) (by exact kl_X11_134) ?_
            refine j_aload_n (dk dt_X11_copy 67 rfl) rfl ?_
            refine jz_getI (kz := 14) (dk dt_X11_copy 68 rfl) fl_X11_135 rfl rfl rfl k_1 ?_
            refine jz_isub (dk dt_X11_copy 69 rfl) ?_
            refine jz_icmp_le 141 (dk dt_X11_copy 70 rfl) (by decide) r_116 (r32_w _) H (fun H => ?_) (fun H => ?_)
            · refine j_aload_n (dk dt_X11_copy 75 rfl) rfl ?_
              refine j_dup (dk dt_X11_copy 76 rfl) rfl ?_
              refine jz_getI (kz := 14) (dk dt_X11_copy 77 rfl) fl_X11_135 rfl rfl rfl k_1 ?_
              refine j_iload (dk dt_X11_copy 78 rfl) rfl ?_
              refine jz_iadd (dk dt_X11_copy 79 rfl) ?_
              refine jz_putI (kz := 14) (dk dt_X11_copy 80 rfl) fl_X11_135 rfl rfl rfl rfl rfl k_1 hw (r32_w _) (fun w_149 => ?_)
              replace H := H _ rfl
              refine j_aload_n (dk dt_X11_copy 81 rfl) rfl ?_
              refine jz_getO (kz := 11) (dk dt_X11_copy 82 rfl) fl_X11_104 rfl rfl rfl k_1 ?_
              obtain ⟨a_156, e_156, k_156, H⟩ := H
              obtain ⟨c_156, s_156, hc_156, hs_156, H⟩ := H
              refine jz_callV0 (dk dt_X11_copy 83 rfl) vl_X11_100 e_156 (T_X6_twin w_149 H) k_156 rfl (by decide) hc_156 hs_156 (Nat.le_of_ble_eq_true rfl) (fun v_156 h_156 P_156 => ?_)
              obtain ⟨x_156, z_156, rfl, rfl, w_156, H⟩ := P_156
              dsimp only [rs]
              refine j_astore (dk dt_X11_copy 84 rfl) (by decide) ?_
              refine j_iconst (v := Int32.ofInt 0) (dk dt_X11_copy 85 rfl) (by decide) ?_
              refine j_istore (dk dt_X11_copy 86 rfl) (by decide) ?_
              exact j_el (T_X11_copy_164 r_x1 r_x2 r_x5 r_x6 (r32_w _) (r32_w _) (by decide) w_156   H) (And.intro rfl (And.intro rfl (And.intro rfl (And.intro rfl (And.intro rfl (And.intro rfl (And.intro rfl (And.intro rfl (And.intro rfl trivial)))))))))
            · obtain ⟨hc_, hs_, H⟩ := H
              exact j_throw (E := "java/lang/UnsupportedOperationException") ⟨138, 140, by decide, (dk dt_X11_copy 71 rfl), (dk dt_X11_copy 72 rfl), (dk dt_X11_copy 73 rfl), (dk dt_X11_copy 74 rfl)⟩ hc_ hs_ (Nat.le_of_ble_eq_true rfl) ⟨2, _, rfl, rfl, hw, H⟩
          · exact j_el (T_X11_copy_58  hw   H) trivial
def L_X11_countedUp_10  (x1 : Option Nat) (x2 : Int) (z : Z) (c : Nat) (s : Nat) (P : (Int × Z) ⊕ ((Z)) → Prop) : Prop :=
  (∃ a_12, x1 = some a_12 ∧ zK z a_12 = 15 ∧ (if zN z a_12 ≤ x2 then P (.inr z) else (0 ≤ x2 ∧ x2 < zN z a_12 ∧ (∀ z_21, z_21 = wI z a_12 x2 (w32 (x2 + 1)) → P (.inl (w32 (x2 + 1), z_21))))))
theorem U_X11_countedUp_10  {x1 : Option Nat} {x2 : Int} {z : Z} {c : Nat} {s : Nat} {P : (Int × Z) ⊕ ((Z)) → Prop} {post : Option Sv ⊕ String → Hp → Prop} (r_x2 : R32 x2) (hw : Wz z)  (hl : ∀ (x2 : Int) (z : Z), P (.inl (x2, z)) → Wz z → R32 x2 → J mX11_countedUp 4 c s post 10 [none, some (vr (x1)), some (ii (x2))] [] (cz z)) (he0 : ∀ (z : Z), P (.inr z) → Wz z → J mX11_countedUp 4 c s post 28 [none, some (vr (x1)), none] [] (cz z)) (H : L_X11_countedUp_10 x1 x2 z c s P) : J mX11_countedUp 4 c s post 10 [none, some (vr (x1)), some (ii (x2))] [] (cz z) := by
  unfold L_X11_countedUp_10 at H
  refine j_iload_n (dk dt_X11_countedUp 7 rfl) rfl ?_
  refine j_aload_n (dk dt_X11_countedUp 8 rfl) rfl ?_
  obtain ⟨a_12, e_12, k_12, H⟩ := H
  refine jz_alen (t := 1) (dk dt_X11_countedUp 9 rfl) e_12 k_12 (by decide) hw ?_
  refine jz_icmp_ge 28 (dk dt_X11_countedUp 10 rfl) (by decide) r_x2 (r32_len hw _) H (fun H => ?_) (fun H => ?_)
  · exact j_el (he0 _ H hw) (And.intro rfl trivial)
  · refine j_aload_n (dk dt_X11_countedUp 11 rfl) rfl ?_
    refine j_iload_n (dk dt_X11_countedUp 12 rfl) rfl ?_
    refine j_iload_n (dk dt_X11_countedUp 13 rfl) rfl ?_
    refine j_iconst (v := Int32.ofInt 1) (dk dt_X11_countedUp 14 rfl) (by decide) ?_
    refine jz_iadd (dk dt_X11_countedUp 15 rfl) ?_
    obtain ⟨p_21, q_21, H⟩ := H
    refine jz_iast (dk dt_X11_countedUp 16 rfl) e_12 k_12 p_21 q_21 hw (r32_w _) (fun w_21 => ?_)
    replace H := H _ rfl
    refine jz_iinc (dk dt_X11_countedUp 17 rfl) rfl ?_
    refine j_goto 10 (dk dt_X11_countedUp 18 rfl) (by decide) ?_
    exact j_el (hl _ _ H w_21 (r32_w _)) (And.intro rfl (And.intro rfl trivial))
def F_X11_countedUp_10  (x1 : Option Nat) (x2 : Int) (z : Z) (c : Nat) (s : Nat) (P : Option Nat → Z → Prop) : Prop :=
  lp (S := Int × Z) (E := (Z)) (fun q P_ => L_X11_countedUp_10 x1 q.1 q.2 c s P_) (x2, z) (fun (z : Z) => P x1 z)
theorem T_X11_countedUp_10  {x1 : Option Nat} {x2 : Int} {z : Z} {c : Nat} {s : Nat} {P : Option Nat → Z → Prop} (r_x2 : R32 x2) (hw : Wz z)   (H : F_X11_countedUp_10 x1 x2 z c s P) : J mX11_countedUp 4 c s (nx (QZA P)) 10 [none, some (vr (x1)), some (ii (x2))] [] (cz z) := by
  unfold F_X11_countedUp_10 at H
  refine lp_J (G := fun q => Wz (q.2) → R32 (q.1) → J mX11_countedUp 4 c s (nx (QZA P)) 10 [none, some (vr (x1)), some (ii ((q.1)))] [] (cz (q.2))) (fun q P_ hl_ he_ Hb => ?_) (x2, z) H hw r_x2
  obtain ⟨x2, z⟩ := q
  intro hw r_x2
  refine U_X11_countedUp_10 (P := P_) r_x2 hw  (fun x2 z Hp hw r_x2 => hl_ (x2, z) Hp hw r_x2) ?_ Hb
  · intro z Hp hw
    have H := he_ _ Hp
    refine j_aload_n (dk dt_X11_countedUp 19 rfl) rfl ?_
    exact j_areturn (dk dt_X11_countedUp 20 rfl) rfl rfl ⟨_, _, rfl, rfl, hw, H⟩
def F_X11_countedUp  (x0 : Int) (z : Z) (c : Nat) (s : Nat) (P : Option Nat → Z → Prop) : Prop :=
  (0 ≤ max x0 0 ∧ max x0 0 < (33554432 : Int) ∧ 1 ≤ c ∧ Int.toNat (max x0 0) ≤ s ∧ ∀ a_5, zK z a_5 = 0 → (∀ z_5, z_5 = nZ z a_5 15 (max x0 0) → F_X11_countedUp_10 (some a_5) 0 z_5 (c - 1) (s - Int.toNat (max x0 0)) P))
theorem T_X11_countedUp  {x0 : Int} {z : Z} {c : Nat} {s : Nat} {P : Option Nat → Z → Prop} (r_x0 : R32 x0) (hw : Wz z)  (H : F_X11_countedUp x0 z c s P) : Con mX11_countedUp 4 c s [ii (x0)] (cz z) (QZA P) := by
  refine con_of rfl (Nat.le_of_ble_eq_true rfl) (by decide) ?_
  show J mX11_countedUp 4 c s _ 0 [some (ii (x0)), none, none] [] (cz z)
  unfold F_X11_countedUp at H
  refine j_iload_n (dk dt_X11_countedUp 0 rfl) rfl ?_
  refine j_iconst (v := Int32.ofInt 0) (dk dt_X11_countedUp 1 rfl) (by decide) ?_
  refine jz_mmax (dk dt_X11_countedUp 2 rfl) sl_X11_365 (by decide) (Nat.le_of_ble_eq_true rfl) r_x0 (by decide) ?_
  obtain ⟨p_5, q_5, hc_5, hs_5, H⟩ := H
  refine jz_newI (dk dt_X11_countedUp 3 rfl) p_5 q_5 hc_5 hs_5 hw (fun a_5 e_5 w_5 => ?_)
  replace H := H a_5 e_5
  replace H := H _ rfl
  refine j_astore_n (dk dt_X11_countedUp 4 rfl) (by decide) ?_
  refine j_iconst (v := Int32.ofInt 0) (dk dt_X11_countedUp 5 rfl) (by decide) ?_
  refine j_istore_n (dk dt_X11_countedUp 6 rfl) (by decide) ?_
  exact j_el (T_X11_countedUp_10 (by decide) w_5   H) (And.intro rfl (And.intro rfl trivial))
def L_X11_placeIn_2  (x0 : Option Nat) (x1 : Int) (x2 : Int) (x3 : Int) (z : Z) (P : Int ⊕ ((Unit) ⊕ (Int)) → Prop) : Prop :=
  (if x1 ≤ x3 then P (.inr (.inl ())) else (∃ a_9, x0 = some a_9 ∧ zK z a_9 = 15 ∧ (if zN z a_9 ≤ x3 then P (.inr (.inl ())) else (0 ≤ x3 ∧ x3 < zN z a_9 ∧ (if zI z a_9 x3 = x2 then P (.inr (.inr x3)) else P (.inl (w32 (x3 + 1))))))))
theorem U_X11_placeIn_2  {x0 : Option Nat} {x1 : Int} {x2 : Int} {x3 : Int} {z : Z} {P : Int ⊕ ((Unit) ⊕ (Int)) → Prop} {post : Option Sv ⊕ String → Hp → Prop} (r_x1 : R32 x1) (r_x2 : R32 x2) (r_x3 : R32 x3) (hw : Wz z)  (hl : ∀ (x3 : Int), P (.inl x3) → R32 x3 → J mX11_placeIn 1 0 0 post 2 [some (vr (x0)), some (ii (x1)), some (ii (x2)), some (ii (x3))] [] (cz z)) (he0 : P (.inr (.inl ())) → J mX11_placeIn 1 0 0 post 30 [none, none, none, none] [] (cz z)) (he1 : ∀ (x3 : Int), P (.inr (.inr x3)) → R32 x3 → J mX11_placeIn 1 0 0 post 20 [none, none, none, some (ii (x3))] [] (cz z)) (H : L_X11_placeIn_2 x0 x1 x2 x3 z P) : J mX11_placeIn 1 0 0 post 2 [some (vr (x0)), some (ii (x1)), some (ii (x2)), some (ii (x3))] [] (cz z) := by
  unfold L_X11_placeIn_2 at H
  refine j_iload_n (dk dt_X11_placeIn 2 rfl) rfl ?_
  refine j_iload_n (dk dt_X11_placeIn 3 rfl) rfl ?_
  refine jz_icmp_ge 30 (dk dt_X11_placeIn 4 rfl) (by decide) r_x3 r_x1 H (fun H => ?_) (fun H => ?_)
  · exact j_el (he0  H ) trivial
  · refine j_iload_n (dk dt_X11_placeIn 5 rfl) rfl ?_
    refine j_aload_n (dk dt_X11_placeIn 6 rfl) rfl ?_
    obtain ⟨a_9, e_9, k_9, H⟩ := H
    refine jz_alen (t := 1) (dk dt_X11_placeIn 7 rfl) e_9 k_9 (by decide) hw ?_
    refine jz_icmp_ge 30 (dk dt_X11_placeIn 8 rfl) (by decide) r_x3 (r32_len hw _) H (fun H => ?_) (fun H => ?_)
    · exact j_el (he0  H ) trivial
    · refine j_aload_n (dk dt_X11_placeIn 9 rfl) rfl ?_
      refine j_iload_n (dk dt_X11_placeIn 10 rfl) rfl ?_
      obtain ⟨p_15, q_15, H⟩ := H
      refine jz_iald (dk dt_X11_placeIn 11 rfl) e_9 k_9 p_15 q_15 hw ?_
      refine j_iload_n (dk dt_X11_placeIn 12 rfl) rfl ?_
      refine jz_icmp_ne 24 (dk dt_X11_placeIn 13 rfl) (by decide) (hw.1 _ _) r_x2 H (fun H => ?_) (fun H => ?_)
      · exact j_el (he1 _ H r_x3) (And.intro rfl trivial)
      · refine jz_iinc (dk dt_X11_placeIn 18 rfl) rfl ?_
        refine j_goto 2 (dk dt_X11_placeIn 19 rfl) (by decide) ?_
        exact j_el (hl _ H (r32_w _)) (And.intro rfl (And.intro rfl (And.intro rfl (And.intro rfl trivial))))
def F_X11_placeIn_30  (z : Z) (P : Int → Prop) : Prop :=
  P 0
theorem T_X11_placeIn_30  {z : Z} {P : Int → Prop}  (hw : Wz z)   (H : F_X11_placeIn_30 z P) : J mX11_placeIn 1 0 0 (nx (QPI (cz z) P)) 30 [none, none, none, none] [] (cz z) := by
  unfold F_X11_placeIn_30 at H
  refine j_iconst (v := Int32.ofInt 0) (dk dt_X11_placeIn 20 rfl) (by decide) ?_
  exact j_ireturn (dk dt_X11_placeIn 21 rfl) rfl rfl ⟨_, rfl, (by decide), rfl, H⟩
def F_X11_placeIn_2  (x0 : Option Nat) (x1 : Int) (x2 : Int) (x3 : Int) (z : Z) (P : Int → Prop) : Prop :=
  lp (S := Int) (E := (Unit) ⊕ (Int)) (fun q P_ => L_X11_placeIn_2 x0 x1 x2 q z P_) x3 (fun e => match e with | (.inl _) => F_X11_placeIn_30 z P | (.inr x3) => P (w32 (x3 + 1)))
theorem T_X11_placeIn_2  {x0 : Option Nat} {x1 : Int} {x2 : Int} {x3 : Int} {z : Z} {P : Int → Prop} (r_x1 : R32 x1) (r_x2 : R32 x2) (r_x3 : R32 x3) (hw : Wz z)   (H : F_X11_placeIn_2 x0 x1 x2 x3 z P) : J mX11_placeIn 1 0 0 (nx (QPI (cz z) P)) 2 [some (vr (x0)), some (ii (x1)), some (ii (x2)), some (ii (x3))] [] (cz z) := by
  unfold F_X11_placeIn_2 at H
  refine lp_J (G := fun q => R32 (q) → J mX11_placeIn 1 0 0 (nx (QPI (cz z) P)) 2 [some (vr (x0)), some (ii (x1)), some (ii (x2)), some (ii ((q)))] [] (cz z)) (fun x3 P_ hl_ he_ Hb => ?_) x3 H r_x3
  intro r_x3
  refine U_X11_placeIn_2 (P := P_) r_x1 r_x2 r_x3 hw  (fun x3 Hp r_x3 => hl_ x3 Hp r_x3) ?_ ?_ Hb
  · intro Hp
    have H := he_ _ Hp
    exact j_el (T_X11_placeIn_30  hw   H) trivial
  · intro x3 Hp r_x3
    have H := he_ _ Hp
    refine j_iload_n (dk dt_X11_placeIn 14 rfl) rfl ?_
    refine j_iconst (v := Int32.ofInt 1) (dk dt_X11_placeIn 15 rfl) (by decide) ?_
    refine jz_iadd (dk dt_X11_placeIn 16 rfl) ?_
    exact j_ireturn (dk dt_X11_placeIn 17 rfl) rfl rfl ⟨_, rfl, (r32_w _), rfl, H⟩
def F_X11_placeIn  (x0 : Option Nat) (x1 : Int) (x2 : Int) (z : Z) (P : Int → Prop) : Prop :=
  F_X11_placeIn_2 x0 x1 x2 0 z P
theorem T_X11_placeIn  {x0 : Option Nat} {x1 : Int} {x2 : Int} {z : Z} {P : Int → Prop} (r_x1 : R32 x1) (r_x2 : R32 x2) (hw : Wz z)  (H : F_X11_placeIn x0 x1 x2 z P) : Con mX11_placeIn 1 0 0 [vr (x0), ii (x1), ii (x2)] (cz z) (QPI (cz z) P) := by
  refine con_of rfl (Nat.le_of_ble_eq_true rfl) (by decide) ?_
  show J mX11_placeIn 1 0 0 _ 0 [some (vr (x0)), some (ii (x1)), some (ii (x2)), none] [] (cz z)
  unfold F_X11_placeIn at H
  refine j_iconst (v := Int32.ofInt 0) (dk dt_X11_placeIn 0 rfl) (by decide) ?_
  refine j_istore_n (dk dt_X11_placeIn 1 rfl) (by decide) ?_
  exact j_el (T_X11_placeIn_2 r_x1 r_x2 (by decide) hw   H) (And.intro rfl (And.intro rfl (And.intro rfl (And.intro rfl trivial))))
def F_X11_inSameOrder_98  (x0 : Option Nat) (x1 : Option Nat) (x2 : Option Nat) (x3 : Int) (x4 : Int) (z : Z) (P : (Int × Int) ⊕ ((Unit) ⊕ (Unit)) → Prop) : Prop :=
  P (.inl (x3, w32 (x4 + 1)))
theorem T_X11_inSameOrder_98  {x0 : Option Nat} {x1 : Option Nat} {x2 : Option Nat} {x3 : Int} {x4 : Int} {z : Z} {P : (Int × Int) ⊕ ((Unit) ⊕ (Unit)) → Prop} {post : Option Sv ⊕ String → Hp → Prop} (r_x3 : R32 x3) (r_x4 : R32 x4) (hw : Wz z)  (hl : ∀ (x3 : Int) (x4 : Int), P (.inl (x3, x4)) → R32 x3 → R32 x4 → J mX11_inSameOrder 2 0 0 post 5 [some (vr (x0)), some (vr (x1)), some (vr (x2)), some (ii (x3)), some (ii (x4)), none] [] (cz z)) (he0 : P (.inr (.inl ())) → J mX11_inSameOrder 2 0 0 post 104 [none, none, none, none, none, none] [] (cz z)) (he1 : P (.inr (.inr ())) → J mX11_inSameOrder 2 0 0 post 93 [none, none, none, none, none, none] [] (cz z)) (H : F_X11_inSameOrder_98 x0 x1 x2 x3 x4 z P) : J mX11_inSameOrder 2 0 0 (post) 98 [some (vr (x0)), some (vr (x1)), some (vr (x2)), some (ii (x3)), some (ii (x4)), none] [] (cz z) := by
  unfold F_X11_inSameOrder_98 at H
  refine jz_iinc (dk dt_X11_inSameOrder 59 rfl) rfl ?_
  refine j_goto 5 (dk dt_X11_inSameOrder 60 rfl) (by decide) ?_
  exact j_el (hl _ _ H r_x3 (r32_w _)) (And.intro rfl (And.intro rfl (And.intro rfl (And.intro rfl (And.intro rfl trivial)))))
def F_X11_inSameOrder_73  (x0 : Option Nat) (x1 : Option Nat) (x2 : Option Nat) (x3 : Int) (x4 : Int) (x5 : Int) (z : Z) (P : Int ⊕ ((Int)) → Prop) : Prop :=
  P (.inl (w32 (x3 + 1)))
theorem T_X11_inSameOrder_73  {x0 : Option Nat} {x1 : Option Nat} {x2 : Option Nat} {x3 : Int} {x4 : Int} {x5 : Int} {z : Z} {P : Int ⊕ ((Int)) → Prop} {post : Option Sv ⊕ String → Hp → Prop} (r_x3 : R32 x3) (r_x4 : R32 x4) (r_x5 : R32 x5) (hw : Wz z)  (hl : ∀ (x3 : Int), P (.inl x3) → R32 x3 → J mX11_inSameOrder 2 0 0 post 43 [some (vr (x0)), some (vr (x1)), some (vr (x2)), some (ii (x3)), some (ii (x4)), some (ii (x5))] [] (cz z)) (he0 : ∀ (x3 : Int), P (.inr x3) → R32 x3 → J mX11_inSameOrder 2 0 0 post 79 [some (vr (x0)), some (vr (x1)), some (vr (x2)), some (ii (x3)), some (ii (x4)), some (ii (x5))] [] (cz z)) (H : F_X11_inSameOrder_73 x0 x1 x2 x3 x4 x5 z P) : J mX11_inSameOrder 2 0 0 (post) 73 [some (vr (x0)), some (vr (x1)), some (vr (x2)), some (ii (x3)), some (ii (x4)), some (ii (x5))] [] (cz z) := by
  unfold F_X11_inSameOrder_73 at H
  refine jz_iinc (dk dt_X11_inSameOrder 45 rfl) rfl ?_
  refine j_goto 43 (dk dt_X11_inSameOrder 46 rfl) (by decide) ?_
  exact j_el (hl _ H (r32_w _)) (And.intro rfl (And.intro rfl (And.intro rfl (And.intro rfl (And.intro rfl (And.intro rfl trivial))))))
def L_X11_inSameOrder_43  (x0 : Option Nat) (x1 : Option Nat) (x2 : Option Nat) (x3 : Int) (x4 : Int) (x5 : Int) (z : Z) (P : Int ⊕ ((Int)) → Prop) : Prop :=
  (∃ a_45, x1 = some a_45 ∧ zK z a_45 = 15 ∧ (if zN z a_45 ≤ x3 then P (.inr x3) else (∃ a_51, x0 = some a_51 ∧ zK z a_51 = 15 ∧ (0 ≤ x3 ∧ x3 < zN z a_45 ∧ F_X11_placeIn x0 (zN z a_51) (zI z a_45 x3) z (fun x_55 => (if x_55 = 0 then F_X11_inSameOrder_73 x0 x1 x2 x3 x4 x5 z P else (∃ a_63, x2 = some a_63 ∧ zK z a_63 = 15 ∧ F_X11_placeIn x2 (zN z a_63) (zI z a_45 x3) z (fun x_67 => (if x_67 = 0 then F_X11_inSameOrder_73 x0 x1 x2 x3 x4 x5 z P else P (.inr x3))))))))))
theorem U_X11_inSameOrder_43  {x0 : Option Nat} {x1 : Option Nat} {x2 : Option Nat} {x3 : Int} {x4 : Int} {x5 : Int} {z : Z} {P : Int ⊕ ((Int)) → Prop} {post : Option Sv ⊕ String → Hp → Prop} (r_x3 : R32 x3) (r_x4 : R32 x4) (r_x5 : R32 x5) (hw : Wz z)  (hl : ∀ (x3 : Int), P (.inl x3) → R32 x3 → J mX11_inSameOrder 2 0 0 post 43 [some (vr (x0)), some (vr (x1)), some (vr (x2)), some (ii (x3)), some (ii (x4)), some (ii (x5))] [] (cz z)) (he0 : ∀ (x3 : Int), P (.inr x3) → R32 x3 → J mX11_inSameOrder 2 0 0 post 79 [some (vr (x0)), some (vr (x1)), some (vr (x2)), some (ii (x3)), some (ii (x4)), some (ii (x5))] [] (cz z)) (H : L_X11_inSameOrder_43 x0 x1 x2 x3 x4 x5 z P) : J mX11_inSameOrder 2 0 0 post 43 [some (vr (x0)), some (vr (x1)), some (vr (x2)), some (ii (x3)), some (ii (x4)), some (ii (x5))] [] (cz z) := by
  unfold L_X11_inSameOrder_43 at H
  refine j_iload_n (dk dt_X11_inSameOrder 25 rfl) rfl ?_
  refine j_aload_n (dk dt_X11_inSameOrder 26 rfl) rfl ?_
  obtain ⟨a_45, e_45, k_45, H⟩ := H
  refine jz_alen (t := 1) (dk dt_X11_inSameOrder 27 rfl) e_45 k_45 (by decide) hw ?_
  refine jz_icmp_ge 79 (dk dt_X11_inSameOrder 28 rfl) (by decide) r_x3 (r32_len hw _) H (fun H => ?_) (fun H => ?_)
  · exact j_el (he0 _ H r_x3) (And.intro rfl (And.intro rfl (And.intro rfl (And.intro rfl (And.intro rfl (And.intro rfl trivial))))))
  · refine j_aload_n (dk dt_X11_inSameOrder 29 rfl) rfl ?_
    refine j_aload_n (dk dt_X11_inSameOrder 30 rfl) rfl ?_
    obtain ⟨a_51, e_51, k_51, H⟩ := H
    refine jz_alen (t := 1) (dk dt_X11_inSameOrder 31 rfl) e_51 k_51 (by decide) hw ?_
    refine j_aload_n (dk dt_X11_inSameOrder 32 rfl) rfl ?_
    refine j_iload_n (dk dt_X11_inSameOrder 33 rfl) rfl ?_
    obtain ⟨p_54, q_54, H⟩ := H
    refine jz_iald (dk dt_X11_inSameOrder 34 rfl) e_45 k_45 p_54 q_54 hw ?_
    refine j_callS3 (dk dt_X11_inSameOrder 35 rfl) sl_X11_368 (T_X11_placeIn (r32_len hw _) (hw.1 _ _) hw H) rfl (by decide) (Nat.zero_le _) (Nat.zero_le _) (Nat.le_of_ble_eq_true rfl) (fun v_55 h_55 P_55 => ?_)
    obtain ⟨x_55, rfl, r_55, rfl, H⟩ := P_55
    dsimp only [rs]
    refine jz_if_eq 73 (dk dt_X11_inSameOrder 36 rfl) (by decide) r_55 H (fun H => ?_) (fun H => ?_)
    · exact j_el (T_X11_inSameOrder_73 r_x3 r_x4 r_x5 hw  hl he0 H) (And.intro rfl (And.intro rfl (And.intro rfl (And.intro rfl (And.intro rfl (And.intro rfl trivial))))))
    · refine j_aload_n (dk dt_X11_inSameOrder 37 rfl) rfl ?_
      refine j_aload_n (dk dt_X11_inSameOrder 38 rfl) rfl ?_
      obtain ⟨a_63, e_63, k_63, H⟩ := H
      refine jz_alen (t := 1) (dk dt_X11_inSameOrder 39 rfl) e_63 k_63 (by decide) hw ?_
      refine j_aload_n (dk dt_X11_inSameOrder 40 rfl) rfl ?_
      refine j_iload_n (dk dt_X11_inSameOrder 41 rfl) rfl ?_
      refine jz_iald (dk dt_X11_inSameOrder 42 rfl) e_45 k_45 p_54 q_54 hw ?_
      refine j_callS3 (dk dt_X11_inSameOrder 43 rfl) sl_X11_368 (T_X11_placeIn (r32_len hw _) (hw.1 _ _) hw H) rfl (by decide) (Nat.zero_le _) (Nat.zero_le _) (Nat.le_of_ble_eq_true rfl) (fun v_67 h_67 P_67 => ?_)
      obtain ⟨x_67, rfl, r_67, rfl, H⟩ := P_67
      dsimp only [rs]
      refine jz_if_ne 79 (dk dt_X11_inSameOrder 44 rfl) (by decide) r_67 H (fun H => ?_) (fun H => ?_)
      · exact j_el (T_X11_inSameOrder_73 r_x3 r_x4 r_x5 hw  hl he0 H) (And.intro rfl (And.intro rfl (And.intro rfl (And.intro rfl (And.intro rfl (And.intro rfl trivial))))))
      · exact j_el (he0 _ H r_x3) (And.intro rfl (And.intro rfl (And.intro rfl (And.intro rfl (And.intro rfl (And.intro rfl trivial))))))
def F_X11_inSameOrder_79  (x0 : Option Nat) (x1 : Option Nat) (x2 : Option Nat) (x3 : Int) (x4 : Int) (x5 : Int) (z : Z) (P : (Int × Int) ⊕ ((Unit) ⊕ (Unit)) → Prop) : Prop :=
  (∃ a_81, x1 = some a_81 ∧ zK z a_81 = 15 ∧ (if zN z a_81 ≤ x3 then P (.inr (.inr ())) else (0 ≤ x3 ∧ x3 < zN z a_81 ∧ (if zI z a_81 x3 = x5 then F_X11_inSameOrder_98 x0 x1 x2 (w32 (x3 + 1)) x4 z P else P (.inr (.inr ()))))))
theorem T_X11_inSameOrder_79  {x0 : Option Nat} {x1 : Option Nat} {x2 : Option Nat} {x3 : Int} {x4 : Int} {x5 : Int} {z : Z} {P : (Int × Int) ⊕ ((Unit) ⊕ (Unit)) → Prop} {post : Option Sv ⊕ String → Hp → Prop} (r_x3 : R32 x3) (r_x4 : R32 x4) (r_x5 : R32 x5) (hw : Wz z)  (hl : ∀ (x3 : Int) (x4 : Int), P (.inl (x3, x4)) → R32 x3 → R32 x4 → J mX11_inSameOrder 2 0 0 post 5 [some (vr (x0)), some (vr (x1)), some (vr (x2)), some (ii (x3)), some (ii (x4)), none] [] (cz z)) (he0 : P (.inr (.inl ())) → J mX11_inSameOrder 2 0 0 post 104 [none, none, none, none, none, none] [] (cz z)) (he1 : P (.inr (.inr ())) → J mX11_inSameOrder 2 0 0 post 93 [none, none, none, none, none, none] [] (cz z)) (H : F_X11_inSameOrder_79 x0 x1 x2 x3 x4 x5 z P) : J mX11_inSameOrder 2 0 0 (post) 79 [some (vr (x0)), some (vr (x1)), some (vr (x2)), some (ii (x3)), some (ii (x4)), some (ii (x5))] [] (cz z) := by
  unfold F_X11_inSameOrder_79 at H
  refine j_iload_n (dk dt_X11_inSameOrder 47 rfl) rfl ?_
  refine j_aload_n (dk dt_X11_inSameOrder 48 rfl) rfl ?_
  obtain ⟨a_81, e_81, k_81, H⟩ := H
  refine jz_alen (t := 1) (dk dt_X11_inSameOrder 49 rfl) e_81 k_81 (by decide) hw ?_
  refine jz_icmp_ge 93 (dk dt_X11_inSameOrder 50 rfl) (by decide) r_x3 (r32_len hw _) H (fun H => ?_) (fun H => ?_)
  · exact j_el (he1  H ) trivial
  · refine j_aload_n (dk dt_X11_inSameOrder 51 rfl) rfl ?_
    refine j_iload_n (dk dt_X11_inSameOrder 52 rfl) rfl ?_
    obtain ⟨p_87, q_87, H⟩ := H
    refine jz_iald (dk dt_X11_inSameOrder 53 rfl) e_81 k_81 p_87 q_87 hw ?_
    refine j_iload (dk dt_X11_inSameOrder 54 rfl) rfl ?_
    refine jz_icmp_eq 95 (dk dt_X11_inSameOrder 55 rfl) (by decide) (hw.1 _ _) r_x5 H (fun H => ?_) (fun H => ?_)
    · refine jz_iinc (dk dt_X11_inSameOrder 58 rfl) rfl ?_
      exact j_el (T_X11_inSameOrder_98 (r32_w _) r_x4 hw  hl he0 he1 H) (And.intro rfl (And.intro rfl (And.intro rfl (And.intro rfl (And.intro rfl trivial)))))
    · exact j_el (he1  H ) trivial
def F_X11_inSameOrder_43  (x0 : Option Nat) (x1 : Option Nat) (x2 : Option Nat) (x3 : Int) (x4 : Int) (x5 : Int) (z : Z) (P : (Int × Int) ⊕ ((Unit) ⊕ (Unit)) → Prop) : Prop :=
  lp (S := Int) (E := (Int)) (fun q P_ => L_X11_inSameOrder_43 x0 x1 x2 q x4 x5 z P_) x3 (fun (x3 : Int) => F_X11_inSameOrder_79 x0 x1 x2 x3 x4 x5 z P)
theorem T_X11_inSameOrder_43  {x0 : Option Nat} {x1 : Option Nat} {x2 : Option Nat} {x3 : Int} {x4 : Int} {x5 : Int} {z : Z} {P : (Int × Int) ⊕ ((Unit) ⊕ (Unit)) → Prop} {post : Option Sv ⊕ String → Hp → Prop} (r_x3 : R32 x3) (r_x4 : R32 x4) (r_x5 : R32 x5) (hw : Wz z)  (hl : ∀ (x3 : Int) (x4 : Int), P (.inl (x3, x4)) → R32 x3 → R32 x4 → J mX11_inSameOrder 2 0 0 post 5 [some (vr (x0)), some (vr (x1)), some (vr (x2)), some (ii (x3)), some (ii (x4)), none] [] (cz z)) (he0 : P (.inr (.inl ())) → J mX11_inSameOrder 2 0 0 post 104 [none, none, none, none, none, none] [] (cz z)) (he1 : P (.inr (.inr ())) → J mX11_inSameOrder 2 0 0 post 93 [none, none, none, none, none, none] [] (cz z)) (H : F_X11_inSameOrder_43 x0 x1 x2 x3 x4 x5 z P) : J mX11_inSameOrder 2 0 0 (post) 43 [some (vr (x0)), some (vr (x1)), some (vr (x2)), some (ii (x3)), some (ii (x4)), some (ii (x5))] [] (cz z) := by
  unfold F_X11_inSameOrder_43 at H
  refine lp_J (G := fun q => R32 (q) → J mX11_inSameOrder 2 0 0 (post) 43 [some (vr (x0)), some (vr (x1)), some (vr (x2)), some (ii ((q))), some (ii (x4)), some (ii (x5))] [] (cz z)) (fun x3 P_ hl_ he_ Hb => ?_) x3 H r_x3
  intro r_x3
  refine U_X11_inSameOrder_43 (P := P_) r_x3 r_x4 r_x5 hw  (fun x3 Hp r_x3 => hl_ x3 Hp r_x3) ?_ Hb
  · intro x3 Hp r_x3
    have H := he_ _ Hp
    exact j_el (T_X11_inSameOrder_79 r_x3 r_x4 r_x5 hw  hl he0 he1 H) (And.intro rfl (And.intro rfl (And.intro rfl (And.intro rfl (And.intro rfl (And.intro rfl trivial))))))
def L_X11_inSameOrder_5  (x0 : Option Nat) (x1 : Option Nat) (x2 : Option Nat) (x3 : Int) (x4 : Int) (z : Z) (P : (Int × Int) ⊕ ((Unit) ⊕ (Unit)) → Prop) : Prop :=
  (∃ a_8, x0 = some a_8 ∧ zK z a_8 = 15 ∧ (if zN z a_8 ≤ x4 then P (.inr (.inl ())) else (0 ≤ x4 ∧ x4 < zN z a_8 ∧ (∃ a_20, x1 = some a_20 ∧ zK z a_20 = 15 ∧ F_X11_placeIn x1 (zN z a_20) (zI z a_8 x4) z (fun x_23 => (if x_23 = 0 then F_X11_inSameOrder_98 x0 x1 x2 x3 x4 z P else (∃ a_31, x2 = some a_31 ∧ zK z a_31 = 15 ∧ F_X11_placeIn x2 (zN z a_31) (zI z a_8 x4) z (fun x_34 => (if x_34 = 0 then F_X11_inSameOrder_98 x0 x1 x2 x3 x4 z P else F_X11_inSameOrder_43 x0 x1 x2 x3 x4 (zI z a_8 x4) z P)))))))))
theorem U_X11_inSameOrder_5  {x0 : Option Nat} {x1 : Option Nat} {x2 : Option Nat} {x3 : Int} {x4 : Int} {z : Z} {P : (Int × Int) ⊕ ((Unit) ⊕ (Unit)) → Prop} {post : Option Sv ⊕ String → Hp → Prop} (r_x3 : R32 x3) (r_x4 : R32 x4) (hw : Wz z)  (hl : ∀ (x3 : Int) (x4 : Int), P (.inl (x3, x4)) → R32 x3 → R32 x4 → J mX11_inSameOrder 2 0 0 post 5 [some (vr (x0)), some (vr (x1)), some (vr (x2)), some (ii (x3)), some (ii (x4)), none] [] (cz z)) (he0 : P (.inr (.inl ())) → J mX11_inSameOrder 2 0 0 post 104 [none, none, none, none, none, none] [] (cz z)) (he1 : P (.inr (.inr ())) → J mX11_inSameOrder 2 0 0 post 93 [none, none, none, none, none, none] [] (cz z)) (H : L_X11_inSameOrder_5 x0 x1 x2 x3 x4 z P) : J mX11_inSameOrder 2 0 0 post 5 [some (vr (x0)), some (vr (x1)), some (vr (x2)), some (ii (x3)), some (ii (x4)), none] [] (cz z) := by
  unfold L_X11_inSameOrder_5 at H
  refine j_iload (dk dt_X11_inSameOrder 4 rfl) rfl ?_
  refine j_aload_n (dk dt_X11_inSameOrder 5 rfl) rfl ?_
  obtain ⟨a_8, e_8, k_8, H⟩ := H
  refine jz_alen (t := 1) (dk dt_X11_inSameOrder 6 rfl) e_8 k_8 (by decide) hw ?_
  refine jz_icmp_ge 104 (dk dt_X11_inSameOrder 7 rfl) (by decide) r_x4 (r32_len hw _) H (fun H => ?_) (fun H => ?_)
  · exact j_el (he0  H ) trivial
  · refine j_aload_n (dk dt_X11_inSameOrder 8 rfl) rfl ?_
    refine j_iload (dk dt_X11_inSameOrder 9 rfl) rfl ?_
    obtain ⟨p_15, q_15, H⟩ := H
    refine jz_iald (dk dt_X11_inSameOrder 10 rfl) e_8 k_8 p_15 q_15 hw ?_
    refine j_istore (dk dt_X11_inSameOrder 11 rfl) (by decide) ?_
    refine j_aload_n (dk dt_X11_inSameOrder 12 rfl) rfl ?_
    refine j_aload_n (dk dt_X11_inSameOrder 13 rfl) rfl ?_
    obtain ⟨a_20, e_20, k_20, H⟩ := H
    refine jz_alen (t := 1) (dk dt_X11_inSameOrder 14 rfl) e_20 k_20 (by decide) hw ?_
    refine j_iload (dk dt_X11_inSameOrder 15 rfl) rfl ?_
    refine j_callS3 (dk dt_X11_inSameOrder 16 rfl) sl_X11_368 (T_X11_placeIn (r32_len hw _) (hw.1 _ _) hw H) rfl (by decide) (Nat.zero_le _) (Nat.zero_le _) (Nat.le_of_ble_eq_true rfl) (fun v_23 h_23 P_23 => ?_)
    obtain ⟨x_23, rfl, r_23, rfl, H⟩ := P_23
    dsimp only [rs]
    refine jz_if_eq 98 (dk dt_X11_inSameOrder 17 rfl) (by decide) r_23 H (fun H => ?_) (fun H => ?_)
    · exact j_el (T_X11_inSameOrder_98 r_x3 r_x4 hw  hl he0 he1 H) (And.intro rfl (And.intro rfl (And.intro rfl (And.intro rfl (And.intro rfl trivial)))))
    · refine j_aload_n (dk dt_X11_inSameOrder 18 rfl) rfl ?_
      refine j_aload_n (dk dt_X11_inSameOrder 19 rfl) rfl ?_
      obtain ⟨a_31, e_31, k_31, H⟩ := H
      refine jz_alen (t := 1) (dk dt_X11_inSameOrder 20 rfl) e_31 k_31 (by decide) hw ?_
      refine j_iload (dk dt_X11_inSameOrder 21 rfl) rfl ?_
      refine j_callS3 (dk dt_X11_inSameOrder 22 rfl) sl_X11_368 (T_X11_placeIn (r32_len hw _) (hw.1 _ _) hw H) rfl (by decide) (Nat.zero_le _) (Nat.zero_le _) (Nat.le_of_ble_eq_true rfl) (fun v_34 h_34 P_34 => ?_)
      obtain ⟨x_34, rfl, r_34, rfl, H⟩ := P_34
      dsimp only [rs]
      refine jz_if_ne 43 (dk dt_X11_inSameOrder 23 rfl) (by decide) r_34 H (fun H => ?_) (fun H => ?_)
      · refine j_goto 98 (dk dt_X11_inSameOrder 24 rfl) (by decide) ?_
        exact j_el (T_X11_inSameOrder_98 r_x3 r_x4 hw  hl he0 he1 H) (And.intro rfl (And.intro rfl (And.intro rfl (And.intro rfl (And.intro rfl trivial)))))
      · exact j_el (T_X11_inSameOrder_43 r_x3 r_x4 (hw.1 _ _) hw  hl he0 he1 H) (And.intro rfl (And.intro rfl (And.intro rfl (And.intro rfl (And.intro rfl (And.intro rfl trivial))))))
def F_X11_inSameOrder_93  (z : Z) (P : Int → Prop) : Prop :=
  P 0
theorem T_X11_inSameOrder_93  {z : Z} {P : Int → Prop}  (hw : Wz z)   (H : F_X11_inSameOrder_93 z P) : J mX11_inSameOrder 2 0 0 (nx (QPI (cz z) P)) 93 [none, none, none, none, none, none] [] (cz z) := by
  unfold F_X11_inSameOrder_93 at H
  refine j_iconst (v := Int32.ofInt 0) (dk dt_X11_inSameOrder 56 rfl) (by decide) ?_
  exact j_ireturn (dk dt_X11_inSameOrder 57 rfl) rfl (nar_z (by decide)) ⟨_, rfl, (by decide), rfl, H⟩
def F_X11_inSameOrder_5  (x0 : Option Nat) (x1 : Option Nat) (x2 : Option Nat) (x3 : Int) (x4 : Int) (z : Z) (P : Int → Prop) : Prop :=
  lp (S := Int × Int) (E := (Unit) ⊕ (Unit)) (fun q P_ => L_X11_inSameOrder_5 x0 x1 x2 q.1 q.2 z P_) (x3, x4) (fun e => match e with | (.inl _) => P 1 | (.inr _) => F_X11_inSameOrder_93 z P)
theorem T_X11_inSameOrder_5  {x0 : Option Nat} {x1 : Option Nat} {x2 : Option Nat} {x3 : Int} {x4 : Int} {z : Z} {P : Int → Prop} (r_x3 : R32 x3) (r_x4 : R32 x4) (hw : Wz z)   (H : F_X11_inSameOrder_5 x0 x1 x2 x3 x4 z P) : J mX11_inSameOrder 2 0 0 (nx (QPI (cz z) P)) 5 [some (vr (x0)), some (vr (x1)), some (vr (x2)), some (ii (x3)), some (ii (x4)), none] [] (cz z) := by
  unfold F_X11_inSameOrder_5 at H
  refine lp_J (G := fun q => R32 (q.1) → R32 (q.2) → J mX11_inSameOrder 2 0 0 (nx (QPI (cz z) P)) 5 [some (vr (x0)), some (vr (x1)), some (vr (x2)), some (ii ((q.1))), some (ii ((q.2))), none] [] (cz z)) (fun q P_ hl_ he_ Hb => ?_) (x3, x4) H r_x3 r_x4
  obtain ⟨x3, x4⟩ := q
  intro r_x3 r_x4
  refine U_X11_inSameOrder_5 (P := P_) r_x3 r_x4 hw  (fun x3 x4 Hp r_x3 r_x4 => hl_ (x3, x4) Hp r_x3 r_x4) ?_ ?_ Hb
  · intro Hp
    have H := he_ _ Hp
    refine j_iconst (v := Int32.ofInt 1) (dk dt_X11_inSameOrder 61 rfl) (by decide) ?_
    exact j_ireturn (dk dt_X11_inSameOrder 62 rfl) rfl (nar_z (by decide)) ⟨_, rfl, (by decide), rfl, H⟩
  · intro Hp
    have H := he_ _ Hp
    exact j_el (T_X11_inSameOrder_93  hw   H) trivial
def F_X11_inSameOrder  (x0 : Option Nat) (x1 : Option Nat) (x2 : Option Nat) (z : Z) (P : Int → Prop) : Prop :=
  F_X11_inSameOrder_5 x0 x1 x2 0 0 z P
theorem T_X11_inSameOrder  {x0 : Option Nat} {x1 : Option Nat} {x2 : Option Nat} {z : Z} {P : Int → Prop}  (hw : Wz z)  (H : F_X11_inSameOrder x0 x1 x2 z P) : Con mX11_inSameOrder 2 0 0 [vr (x0), vr (x1), vr (x2)] (cz z) (QPI (cz z) P) := by
  refine con_of rfl (Nat.le_of_ble_eq_true rfl) (by decide) ?_
  show J mX11_inSameOrder 2 0 0 _ 0 [some (vr (x0)), some (vr (x1)), some (vr (x2)), none, none, none] [] (cz z)
  unfold F_X11_inSameOrder at H
  refine j_iconst (v := Int32.ofInt 0) (dk dt_X11_inSameOrder 0 rfl) (by decide) ?_
  refine j_istore_n (dk dt_X11_inSameOrder 1 rfl) (by decide) ?_
  refine j_iconst (v := Int32.ofInt 0) (dk dt_X11_inSameOrder 2 rfl) (by decide) ?_
  refine j_istore (dk dt_X11_inSameOrder 3 rfl) (by decide) ?_
  exact j_el (T_X11_inSameOrder_5 (by decide) (by decide) hw   H) (And.intro rfl (And.intro rfl (And.intro rfl (And.intro rfl (And.intro rfl trivial)))))
def F_X11_noteDifference  (t0 : Nat) (x1 : Int) (x2 : Int) (x3 : Int) (z : Z) (P : Z → Prop) : Prop :=
  (zK z t0 = 12 ∧ (if zI z t0 10 < 406 then (∃ a_22, zO z t0 9 = some a_22 ∧ zK z a_22 = 15 ∧ (0 ≤ w32 (3 * (zI z t0 10)) ∧ w32 (3 * (zI z t0 10)) < zN z a_22 ∧ (∀ z_22, z_22 = wI z a_22 (w32 (3 * (zI z t0 10))) x1 → (∃ a_36, zO z_22 t0 9 = some a_36 ∧ zK z_22 a_36 = 15 ∧ (0 ≤ w32 (w32 (3 * (zI z_22 t0 10)) + 1) ∧ w32 (w32 (3 * (zI z_22 t0 10)) + 1) < zN z_22 a_36 ∧ (∀ z_36, z_36 = wI z_22 a_36 (w32 (w32 (3 * (zI z_22 t0 10)) + 1)) x2 → (∃ a_50, zO z_36 t0 9 = some a_50 ∧ zK z_36 a_50 = 15 ∧ (0 ≤ w32 (w32 (3 * (zI z_36 t0 10)) + 2) ∧ w32 (w32 (3 * (zI z_36 t0 10)) + 2) < zN z_36 a_50 ∧ (∀ z_50, z_50 = wI z_36 a_50 (w32 (w32 (3 * (zI z_36 t0 10)) + 2)) x3 → (∀ z_58, z_58 = wI z_50 t0 10 (w32 (zI z_50 t0 10 + 1)) → P z_58)))))))))) else P z))
theorem T_X11_noteDifference  {t0 : Nat} {x1 : Int} {x2 : Int} {x3 : Int} {z : Z} {P : Z → Prop} (r_x1 : R32 x1) (r_x2 : R32 x2) (r_x3 : R32 x3) (hw : Wz z)  (H : F_X11_noteDifference t0 x1 x2 x3 z P) : Con mX11_noteDifference 1 0 0 [vr (some t0), ii (x1), ii (x2), ii (x3)] (cz z) (QZV P) := by
  refine con_of rfl (Nat.le_of_ble_eq_true rfl) (by decide) ?_
  show J mX11_noteDifference 1 0 0 _ 0 [some (vr (some t0)), some (ii (x1)), some (ii (x2)), some (ii (x3))] [] (cz z)
  unfold F_X11_noteDifference at H
  refine j_aload_n (dk dt_X11_noteDifference 0 rfl) rfl ?_
  obtain ⟨k_1, H⟩ := H
  refine jz_getI (kz := 10) (dk dt_X11_noteDifference 1 rfl) fl_X11_315 rfl rfl rfl k_1 ?_
  refine j_sipush (v := Int32.ofInt 406) (dk dt_X11_noteDifference 2 rfl) (by decide) ?_
  refine jz_icmp_lt 11 (dk dt_X11_noteDifference 3 rfl) (by decide) (hw.1 _ _) (by decide) H (fun H => ?_) (fun H => ?_)
  · refine j_aload_n (dk dt_X11_noteDifference 5 rfl) rfl ?_
    refine jz_getO (kz := 9) (dk dt_X11_noteDifference 6 rfl) fl_X11_74 rfl rfl rfl k_1 ?_
    refine j_iconst (v := Int32.ofInt 3) (dk dt_X11_noteDifference 7 rfl) (by decide) ?_
    refine j_aload_n (dk dt_X11_noteDifference 8 rfl) rfl ?_
    refine jz_getI (kz := 10) (dk dt_X11_noteDifference 9 rfl) fl_X11_315 rfl rfl rfl k_1 ?_
    refine jz_imul (dk dt_X11_noteDifference 10 rfl) ?_
    refine j_iload_n (dk dt_X11_noteDifference 11 rfl) rfl ?_
    obtain ⟨a_22, e_22, k_22, H⟩ := H
    obtain ⟨p_22, q_22, H⟩ := H
    refine jz_iast (dk dt_X11_noteDifference 12 rfl) e_22 k_22 p_22 q_22 hw r_x1 (fun w_22 => ?_)
    replace H := H _ rfl
    refine j_aload_n (dk dt_X11_noteDifference 13 rfl) rfl ?_
    refine jz_getO (kz := 9) (dk dt_X11_noteDifference 14 rfl) fl_X11_74 rfl rfl rfl k_1 ?_
    refine j_iconst (v := Int32.ofInt 3) (dk dt_X11_noteDifference 15 rfl) (by decide) ?_
    refine j_aload_n (dk dt_X11_noteDifference 16 rfl) rfl ?_
    refine jz_getI (kz := 10) (dk dt_X11_noteDifference 17 rfl) fl_X11_315 rfl rfl rfl k_1 ?_
    refine jz_imul (dk dt_X11_noteDifference 18 rfl) ?_
    refine j_iconst (v := Int32.ofInt 1) (dk dt_X11_noteDifference 19 rfl) (by decide) ?_
    refine jz_iadd (dk dt_X11_noteDifference 20 rfl) ?_
    refine j_iload_n (dk dt_X11_noteDifference 21 rfl) rfl ?_
    obtain ⟨a_36, e_36, k_36, H⟩ := H
    obtain ⟨p_36, q_36, H⟩ := H
    refine jz_iast (dk dt_X11_noteDifference 22 rfl) e_36 k_36 p_36 q_36 w_22 r_x2 (fun w_36 => ?_)
    replace H := H _ rfl
    refine j_aload_n (dk dt_X11_noteDifference 23 rfl) rfl ?_
    refine jz_getO (kz := 9) (dk dt_X11_noteDifference 24 rfl) fl_X11_74 rfl rfl rfl k_1 ?_
    refine j_iconst (v := Int32.ofInt 3) (dk dt_X11_noteDifference 25 rfl) (by decide) ?_
    refine j_aload_n (dk dt_X11_noteDifference 26 rfl) rfl ?_
    refine jz_getI (kz := 10) (dk dt_X11_noteDifference 27 rfl) fl_X11_315 rfl rfl rfl k_1 ?_
    refine jz_imul (dk dt_X11_noteDifference 28 rfl) ?_
    refine j_iconst (v := Int32.ofInt 2) (dk dt_X11_noteDifference 29 rfl) (by decide) ?_
    refine jz_iadd (dk dt_X11_noteDifference 30 rfl) ?_
    refine j_iload_n (dk dt_X11_noteDifference 31 rfl) rfl ?_
    obtain ⟨a_50, e_50, k_50, H⟩ := H
    obtain ⟨p_50, q_50, H⟩ := H
    refine jz_iast (dk dt_X11_noteDifference 32 rfl) e_50 k_50 p_50 q_50 w_36 r_x3 (fun w_50 => ?_)
    replace H := H _ rfl
    refine j_aload_n (dk dt_X11_noteDifference 33 rfl) rfl ?_
    refine j_dup (dk dt_X11_noteDifference 34 rfl) rfl ?_
    refine jz_getI (kz := 10) (dk dt_X11_noteDifference 35 rfl) fl_X11_315 rfl rfl rfl k_1 ?_
    refine j_iconst (v := Int32.ofInt 1) (dk dt_X11_noteDifference 36 rfl) (by decide) ?_
    refine jz_iadd (dk dt_X11_noteDifference 37 rfl) ?_
    refine jz_putI (kz := 10) (dk dt_X11_noteDifference 38 rfl) fl_X11_315 rfl rfl rfl rfl rfl k_1 w_50 (r32_w _) (fun w_58 => ?_)
    replace H := H _ rfl
    exact j_return (dk dt_X11_noteDifference 39 rfl) rfl ⟨_, rfl, rfl, w_58, H⟩
  · exact j_return (dk dt_X11_noteDifference 4 rfl) rfl ⟨_, rfl, rfl, hw, H⟩
def F_X11_noteCells_96  (t0 : Nat) (x1 : Option Nat) (x2 : Option Nat) (x3 : Int) (x4 : Int) (z : Z) (P : (Int × Z) ⊕ ((Z)) → Prop) : Prop :=
  P (.inl (w32 (x4 + 1), z))
theorem T_X11_noteCells_96  {t0 : Nat} {x1 : Option Nat} {x2 : Option Nat} {x3 : Int} {x4 : Int} {z : Z} {P : (Int × Z) ⊕ ((Z)) → Prop} {post : Option Sv ⊕ String → Hp → Prop} (r_x3 : R32 x3) (r_x4 : R32 x4) (hw : Wz z)  (hl : ∀ (x4 : Int) (z : Z), P (.inl (x4, z)) → Wz z → R32 x4 → J mX11_noteCells 4 0 0 post 14 [some (vr (some t0)), some (vr (x1)), some (vr (x2)), some (ii (x3)), some (ii (x4)), none, none] [] (cz z)) (he0 : ∀ (z : Z), P (.inr z) → Wz z → J mX11_noteCells 4 0 0 post 102 [some (vr (some t0)), some (vr (x1)), some (vr (x2)), some (ii (x3)), none, none, none] [] (cz z)) (H : F_X11_noteCells_96 t0 x1 x2 x3 x4 z P) : J mX11_noteCells 4 0 0 (post) 96 [some (vr (some t0)), some (vr (x1)), some (vr (x2)), some (ii (x3)), some (ii (x4)), none, none] [] (cz z) := by
  unfold F_X11_noteCells_96 at H
  refine jz_iinc (dk dt_X11_noteCells 54 rfl) rfl ?_
  refine j_goto 14 (dk dt_X11_noteCells 55 rfl) (by decide) ?_
  exact j_el (hl _ _ H hw (r32_w _)) (And.intro rfl (And.intro rfl (And.intro rfl (And.intro rfl (And.intro rfl trivial)))))
def L_X11_noteCells_14  (t0 : Nat) (x1 : Option Nat) (x2 : Option Nat) (x3 : Int) (x4 : Int) (z : Z) (P : (Int × Z) ⊕ ((Z)) → Prop) : Prop :=
  (∃ a_17, x2 = some a_17 ∧ zK z a_17 = 7 ∧ (∃ a_20, zO z a_17 1 = some a_20 ∧ zK z a_20 = 15 ∧ (if zN z a_20 < x4 then P (.inr z) else (∃ a_33, zO z a_17 0 = some a_33 ∧ zK z a_33 = 15 ∧ (0 ≤ w32 (x3 - 1) ∧ w32 (x3 - 1) < zN z a_33 ∧ (∃ a_34, x1 = some a_34 ∧ zK z a_34 = 7 ∧ F_X6_placeOf a_34 0 (zI z a_33 (w32 (x3 - 1))) z (fun x_34 => (0 ≤ w32 (x4 - 1) ∧ w32 (x4 - 1) < zN z a_20 ∧ F_X6_placeOf a_34 1 (zI z a_20 (w32 (x4 - 1))) z (fun x_50 => F_X6_has a_34 x_34 x_50 z (fun x_60 => (if x_60 = 0 then F_X11_noteCells_96 t0 x1 x2 x3 x4 z P else F_X6_at a_34 x_34 x_50 z (fun x_71 => F_X6_at a_17 x3 x4 z (fun x_78 => F_X1_alike x_71 x_78 z (fun x_81 => (if x_81 = 0 then (zK z t0 = 12 ∧ F_X11_noteDifference t0 7 x3 x4 z (fun z_93 => F_X11_noteCells_96 t0 x1 x2 x3 x4 z_93 P)) else F_X11_noteCells_96 t0 x1 x2 x3 x4 z P)))))))))))))))
theorem U_X11_noteCells_14  {t0 : Nat} {x1 : Option Nat} {x2 : Option Nat} {x3 : Int} {x4 : Int} {z : Z} {P : (Int × Z) ⊕ ((Z)) → Prop} {post : Option Sv ⊕ String → Hp → Prop} (r_x3 : R32 x3) (r_x4 : R32 x4) (hw : Wz z)  (hl : ∀ (x4 : Int) (z : Z), P (.inl (x4, z)) → Wz z → R32 x4 → J mX11_noteCells 4 0 0 post 14 [some (vr (some t0)), some (vr (x1)), some (vr (x2)), some (ii (x3)), some (ii (x4)), none, none] [] (cz z)) (he0 : ∀ (z : Z), P (.inr z) → Wz z → J mX11_noteCells 4 0 0 post 102 [some (vr (some t0)), some (vr (x1)), some (vr (x2)), some (ii (x3)), none, none, none] [] (cz z)) (H : L_X11_noteCells_14 t0 x1 x2 x3 x4 z P) : J mX11_noteCells 4 0 0 post 14 [some (vr (some t0)), some (vr (x1)), some (vr (x2)), some (ii (x3)), some (ii (x4)), none, none] [] (cz z) := by
  unfold L_X11_noteCells_14 at H
  refine j_iload (dk dt_X11_noteCells 9 rfl) rfl ?_
  refine j_aload_n (dk dt_X11_noteCells 10 rfl) rfl ?_
  obtain ⟨a_17, e_17, k_17, H⟩ := H
  refine jz_getO (kz := 1) (dk dt_X11_noteCells 11 rfl) fl_X11_197 rfl rfl e_17 k_17 ?_
  obtain ⟨a_20, e_20, k_20, H⟩ := H
  refine jz_alen (t := 1) (dk dt_X11_noteCells 12 rfl) e_20 k_20 (by decide) hw ?_
  refine jz_icmp_gt 102 (dk dt_X11_noteCells 13 rfl) (by decide) r_x4 (r32_len hw _) H (fun H => ?_) (fun H => ?_)
  · exact j_el (he0 _ H hw) (And.intro rfl (And.intro rfl (And.intro rfl (And.intro rfl trivial))))
  · refine j_aload_n (dk dt_X11_noteCells 14 rfl) rfl ?_
    refine j_iconst (v := Int32.ofInt 0) (dk dt_X11_noteCells 15 rfl) (by decide) ?_
    refine j_aload_n (dk dt_X11_noteCells 16 rfl) rfl ?_
    refine jz_getO (kz := 0) (dk dt_X11_noteCells 17 rfl) fl_X11_190 rfl rfl e_17 k_17 ?_
    refine j_iload_n (dk dt_X11_noteCells 18 rfl) rfl ?_
    refine j_iconst (v := Int32.ofInt 1) (dk dt_X11_noteCells 19 rfl) (by decide) ?_
    refine jz_isub (dk dt_X11_noteCells 20 rfl) ?_
    obtain ⟨a_33, e_33, k_33, H⟩ := H
    obtain ⟨p_33, q_33, H⟩ := H
    refine jz_iald (dk dt_X11_noteCells 21 rfl) e_33 k_33 p_33 q_33 hw ?_
    obtain ⟨a_34, e_34, k_34, H⟩ := H
    refine jz_callV2 (dk dt_X11_noteCells 22 rfl) vl_X11_299 e_34 (T_X6_placeOf (by decide) (hw.1 _ _) hw H) k_34 rfl (by decide) (Nat.zero_le _) (Nat.zero_le _) (Nat.le_of_ble_eq_true rfl) (fun v_34 h_34 P_34 => ?_)
    obtain ⟨x_34, rfl, r_34, rfl, H⟩ := P_34
    dsimp only [rs]
    refine j_istore (dk dt_X11_noteCells 23 rfl) (by decide) ?_
    refine j_aload_n (dk dt_X11_noteCells 24 rfl) rfl ?_
    refine j_iconst (v := Int32.ofInt 1) (dk dt_X11_noteCells 25 rfl) (by decide) ?_
    refine j_aload_n (dk dt_X11_noteCells 26 rfl) rfl ?_
    refine jz_getO (kz := 1) (dk dt_X11_noteCells 27 rfl) fl_X11_197 rfl rfl e_17 k_17 ?_
    refine j_iload (dk dt_X11_noteCells 28 rfl) rfl ?_
    refine j_iconst (v := Int32.ofInt 1) (dk dt_X11_noteCells 29 rfl) (by decide) ?_
    refine jz_isub (dk dt_X11_noteCells 30 rfl) ?_
    obtain ⟨p_49, q_49, H⟩ := H
    refine jz_iald (dk dt_X11_noteCells 31 rfl) e_20 k_20 p_49 q_49 hw ?_
    refine jz_callV2 (dk dt_X11_noteCells 32 rfl) vl_X11_299 e_34 (T_X6_placeOf (by decide) (hw.1 _ _) hw H) k_34 rfl (by decide) (Nat.zero_le _) (Nat.zero_le _) (Nat.le_of_ble_eq_true rfl) (fun v_50 h_50 P_50 => ?_)
    obtain ⟨x_50, rfl, r_50, rfl, H⟩ := P_50
    dsimp only [rs]
    refine j_istore (dk dt_X11_noteCells 33 rfl) (by decide) ?_
    refine j_aload_n (dk dt_X11_noteCells 34 rfl) rfl ?_
    refine j_iload (dk dt_X11_noteCells 35 rfl) rfl ?_
    refine j_iload (dk dt_X11_noteCells 36 rfl) rfl ?_
    refine jz_callV2 (dk dt_X11_noteCells 37 rfl) vl_X11_113 e_34 (T_X6_has r_34 r_50 hw H) k_34 rfl (by decide) (Nat.zero_le _) (Nat.zero_le _) (Nat.le_of_ble_eq_true rfl) (fun v_60 h_60 P_60 => ?_)
    obtain ⟨x_60, rfl, r_60, rfl, H⟩ := P_60
    dsimp only [rs]
    refine jz_if_eq 96 (dk dt_X11_noteCells 38 rfl) (by decide) r_60 H (fun H => ?_) (fun H => ?_)
    · exact j_el (T_X11_noteCells_96 r_x3 r_x4 hw  hl he0 H) (And.intro rfl (And.intro rfl (And.intro rfl (And.intro rfl (And.intro rfl trivial)))))
    · refine j_aload_n (dk dt_X11_noteCells 39 rfl) rfl ?_
      refine j_iload (dk dt_X11_noteCells 40 rfl) rfl ?_
      refine j_iload (dk dt_X11_noteCells 41 rfl) rfl ?_
      refine jz_callV2 (dk dt_X11_noteCells 42 rfl) vl_X11_152 e_34 (T_X6_at r_34 r_50 hw H) k_34 rfl (by decide) (Nat.zero_le _) (Nat.zero_le _) (Nat.le_of_ble_eq_true rfl) (fun v_71 h_71 P_71 => ?_)
      obtain ⟨x_71, rfl, rfl, H⟩ := P_71
      dsimp only [rs]
      refine j_aload_n (dk dt_X11_noteCells 43 rfl) rfl ?_
      refine j_iload_n (dk dt_X11_noteCells 44 rfl) rfl ?_
      refine j_iload (dk dt_X11_noteCells 45 rfl) rfl ?_
      refine jz_callV2 (dk dt_X11_noteCells 46 rfl) vl_X11_152 e_17 (T_X6_at r_x3 r_x4 hw H) k_17 rfl (by decide) (Nat.zero_le _) (Nat.zero_le _) (Nat.le_of_ble_eq_true rfl) (fun v_78 h_78 P_78 => ?_)
      obtain ⟨x_78, rfl, rfl, H⟩ := P_78
      dsimp only [rs]
      refine j_callS2 (dk dt_X11_noteCells 47 rfl) sl_X11_443 (T_X1_alike hw H) rfl (by decide) (Nat.zero_le _) (Nat.zero_le _) (Nat.le_of_ble_eq_true rfl) (fun v_81 h_81 P_81 => ?_)
      obtain ⟨x_81, rfl, r_81, rfl, H⟩ := P_81
      dsimp only [rs]
      refine jz_if_ne 96 (dk dt_X11_noteCells 48 rfl) (by decide) r_81 H (fun H => ?_) (fun H => ?_)
      · refine j_aload_n (dk dt_X11_noteCells 49 rfl) rfl ?_
        refine j_bipush (v := Int32.ofInt 7) (dk dt_X11_noteCells 50 rfl) (by decide) ?_
        refine j_iload_n (dk dt_X11_noteCells 51 rfl) rfl ?_
        refine j_iload (dk dt_X11_noteCells 52 rfl) rfl ?_
        obtain ⟨k_93, H⟩ := H
        refine jz_callV3 (dk dt_X11_noteCells 53 rfl) vl_X11_326 rfl (T_X11_noteDifference (by decide) r_x3 r_x4 hw H) k_93 rfl (by decide) (Nat.zero_le _) (Nat.zero_le _) (Nat.le_of_ble_eq_true rfl) (fun v_93 h_93 P_93 => ?_)
        obtain ⟨z_93, rfl, rfl, w_93, H⟩ := P_93
        dsimp only [rs]
        exact j_el (T_X11_noteCells_96 r_x3 r_x4 w_93  hl he0 H) (And.intro rfl (And.intro rfl (And.intro rfl (And.intro rfl (And.intro rfl trivial)))))
      · exact j_el (T_X11_noteCells_96 r_x3 r_x4 hw  hl he0 H) (And.intro rfl (And.intro rfl (And.intro rfl (And.intro rfl (And.intro rfl trivial)))))
def F_X11_noteCells_14  (t0 : Nat) (x1 : Option Nat) (x2 : Option Nat) (x3 : Int) (x4 : Int) (z : Z) (P : (Int × Z) ⊕ ((Z)) → Prop) : Prop :=
  lp (S := Int × Z) (E := (Z)) (fun q P_ => L_X11_noteCells_14 t0 x1 x2 x3 q.1 q.2 P_) (x4, z) (fun (z : Z) => P (.inl (w32 (x3 + 1), z)))
theorem T_X11_noteCells_14  {t0 : Nat} {x1 : Option Nat} {x2 : Option Nat} {x3 : Int} {x4 : Int} {z : Z} {P : (Int × Z) ⊕ ((Z)) → Prop} {post : Option Sv ⊕ String → Hp → Prop} (r_x3 : R32 x3) (r_x4 : R32 x4) (hw : Wz z)  (hl : ∀ (x3 : Int) (z : Z), P (.inl (x3, z)) → Wz z → R32 x3 → J mX11_noteCells 4 0 0 post 2 [some (vr (some t0)), some (vr (x1)), some (vr (x2)), some (ii (x3)), none, none, none] [] (cz z)) (he0 : ∀ (z : Z), P (.inr z) → Wz z → J mX11_noteCells 4 0 0 post 108 [none, none, none, none, none, none, none] [] (cz z)) (H : F_X11_noteCells_14 t0 x1 x2 x3 x4 z P) : J mX11_noteCells 4 0 0 (post) 14 [some (vr (some t0)), some (vr (x1)), some (vr (x2)), some (ii (x3)), some (ii (x4)), none, none] [] (cz z) := by
  unfold F_X11_noteCells_14 at H
  refine lp_J (G := fun q => Wz (q.2) → R32 (q.1) → J mX11_noteCells 4 0 0 (post) 14 [some (vr (some t0)), some (vr (x1)), some (vr (x2)), some (ii (x3)), some (ii ((q.1))), none, none] [] (cz (q.2))) (fun q P_ hl_ he_ Hb => ?_) (x4, z) H hw r_x4
  obtain ⟨x4, z⟩ := q
  intro hw r_x4
  refine U_X11_noteCells_14 (P := P_) r_x3 r_x4 hw  (fun x4 z Hp hw r_x4 => hl_ (x4, z) Hp hw r_x4) ?_ Hb
  · intro z Hp hw
    have H := he_ _ Hp
    refine jz_iinc (dk dt_X11_noteCells 56 rfl) rfl ?_
    refine j_goto 2 (dk dt_X11_noteCells 57 rfl) (by decide) ?_
    exact j_el (hl _ _ H hw (r32_w _)) (And.intro rfl (And.intro rfl (And.intro rfl (And.intro rfl trivial))))
def L_X11_noteCells_2  (t0 : Nat) (x1 : Option Nat) (x2 : Option Nat) (x3 : Int) (z : Z) (P : (Int × Z) ⊕ ((Z)) → Prop) : Prop :=
  (∃ a_4, x2 = some a_4 ∧ zK z a_4 = 7 ∧ (∃ a_7, zO z a_4 0 = some a_7 ∧ zK z a_7 = 15 ∧ (if zN z a_7 < x3 then P (.inr z) else F_X11_noteCells_14 t0 x1 x2 x3 1 z P)))
theorem U_X11_noteCells_2  {t0 : Nat} {x1 : Option Nat} {x2 : Option Nat} {x3 : Int} {z : Z} {P : (Int × Z) ⊕ ((Z)) → Prop} {post : Option Sv ⊕ String → Hp → Prop} (r_x3 : R32 x3) (hw : Wz z)  (hl : ∀ (x3 : Int) (z : Z), P (.inl (x3, z)) → Wz z → R32 x3 → J mX11_noteCells 4 0 0 post 2 [some (vr (some t0)), some (vr (x1)), some (vr (x2)), some (ii (x3)), none, none, none] [] (cz z)) (he0 : ∀ (z : Z), P (.inr z) → Wz z → J mX11_noteCells 4 0 0 post 108 [none, none, none, none, none, none, none] [] (cz z)) (H : L_X11_noteCells_2 t0 x1 x2 x3 z P) : J mX11_noteCells 4 0 0 post 2 [some (vr (some t0)), some (vr (x1)), some (vr (x2)), some (ii (x3)), none, none, none] [] (cz z) := by
  unfold L_X11_noteCells_2 at H
  refine j_iload_n (dk dt_X11_noteCells 2 rfl) rfl ?_
  refine j_aload_n (dk dt_X11_noteCells 3 rfl) rfl ?_
  obtain ⟨a_4, e_4, k_4, H⟩ := H
  refine jz_getO (kz := 0) (dk dt_X11_noteCells 4 rfl) fl_X11_190 rfl rfl e_4 k_4 ?_
  obtain ⟨a_7, e_7, k_7, H⟩ := H
  refine jz_alen (t := 1) (dk dt_X11_noteCells 5 rfl) e_7 k_7 (by decide) hw ?_
  refine jz_icmp_gt 108 (dk dt_X11_noteCells 6 rfl) (by decide) r_x3 (r32_len hw _) H (fun H => ?_) (fun H => ?_)
  · exact j_el (he0 _ H hw) trivial
  · refine j_iconst (v := Int32.ofInt 1) (dk dt_X11_noteCells 7 rfl) (by decide) ?_
    refine j_istore (dk dt_X11_noteCells 8 rfl) (by decide) ?_
    exact j_el (T_X11_noteCells_14 r_x3 (by decide) hw  hl he0 H) (And.intro rfl (And.intro rfl (And.intro rfl (And.intro rfl (And.intro rfl trivial)))))
def F_X11_noteCells_2  (t0 : Nat) (x1 : Option Nat) (x2 : Option Nat) (x3 : Int) (z : Z) (P : Z → Prop) : Prop :=
  lp (S := Int × Z) (E := (Z)) (fun q P_ => L_X11_noteCells_2 t0 x1 x2 q.1 q.2 P_) (x3, z) (fun (z : Z) => P z)
theorem T_X11_noteCells_2  {t0 : Nat} {x1 : Option Nat} {x2 : Option Nat} {x3 : Int} {z : Z} {P : Z → Prop} (r_x3 : R32 x3) (hw : Wz z)   (H : F_X11_noteCells_2 t0 x1 x2 x3 z P) : J mX11_noteCells 4 0 0 (nx (QZV P)) 2 [some (vr (some t0)), some (vr (x1)), some (vr (x2)), some (ii (x3)), none, none, none] [] (cz z) := by
  unfold F_X11_noteCells_2 at H
  refine lp_J (G := fun q => Wz (q.2) → R32 (q.1) → J mX11_noteCells 4 0 0 (nx (QZV P)) 2 [some (vr (some t0)), some (vr (x1)), some (vr (x2)), some (ii ((q.1))), none, none, none] [] (cz (q.2))) (fun q P_ hl_ he_ Hb => ?_) (x3, z) H hw r_x3
  obtain ⟨x3, z⟩ := q
  intro hw r_x3
  refine U_X11_noteCells_2 (P := P_) r_x3 hw  (fun x3 z Hp hw r_x3 => hl_ (x3, z) Hp hw r_x3) ?_ Hb
  · intro z Hp hw
    have H := he_ _ Hp
    exact j_return (dk dt_X11_noteCells 58 rfl) rfl ⟨_, rfl, rfl, hw, H⟩
def F_X11_noteCells  (t0 : Nat) (x1 : Option Nat) (x2 : Option Nat) (z : Z) (P : Z → Prop) : Prop :=
  F_X11_noteCells_2 t0 x1 x2 1 z P
theorem T_X11_noteCells  {t0 : Nat} {x1 : Option Nat} {x2 : Option Nat} {z : Z} {P : Z → Prop}  (hw : Wz z)  (H : F_X11_noteCells t0 x1 x2 z P) : Con mX11_noteCells 4 0 0 [vr (some t0), vr (x1), vr (x2)] (cz z) (QZV P) := by
  refine con_of rfl (Nat.le_of_ble_eq_true rfl) (by decide) ?_
  show J mX11_noteCells 4 0 0 _ 0 [some (vr (some t0)), some (vr (x1)), some (vr (x2)), none, none, none, none] [] (cz z)
  unfold F_X11_noteCells at H
  refine j_iconst (v := Int32.ofInt 1) (dk dt_X11_noteCells 0 rfl) (by decide) ?_
  refine j_istore_n (dk dt_X11_noteCells 1 rfl) (by decide) ?_
  exact j_el (T_X11_noteCells_2 (by decide) hw   H) (And.intro rfl (And.intro rfl (And.intro rfl (And.intro rfl trivial))))
