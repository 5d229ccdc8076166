/-! ===== the system's constructor: laid by tr.py, with cuts ===== -/
def L_X11_init_172  (t0 : Nat) (x2 : Int) (z : Z) (c : Nat) (s : Nat) (P : (Int × Z) ⊕ ((Z)) → Prop) : Prop :=
  (zK z t0 = 12 ∧ (∃ a_177, zO z t0 8 = some a_177 ∧ zK z a_177 = 15 ∧ (if zN z a_177 ≤ x2 then P (.inr z) else (0 ≤ x2 ∧ x2 < zN z a_177 ∧ (∀ z_187, z_187 = wI z a_177 x2 (-1) → P (.inl (w32 (x2 + 1), z_187)))))))
theorem U_X11_init_172  {t0 : Nat} {x2 : Int} {z : Z} {c : Nat} {s : Nat} {P : (Int × Z) ⊕ ((Z)) → Prop} {post : Option Sv ⊕ String → Hp → Prop} (r_x2 : R32 x2) (hw : Wz z)  (hl : ∀ (x2 : Int) (z : Z), P (.inl (x2, z)) → Wz z → R32 x2 → J mX11_init 6 c s post 172 [some (vr (some t0)), none, some (ii (x2))] [] (cz z)) (he0 : ∀ (z : Z), P (.inr z) → Wz z → J mX11_init 6 c s post 194 [none, none, none] [] (cz z)) (H : L_X11_init_172 t0 x2 z c s P) : J mX11_init 6 c s post 172 [some (vr (some t0)), none, some (ii (x2))] [] (cz z) := by
  unfold L_X11_init_172 at H
  refine j_iload_n (dk dt_X11_init 83 rfl) rfl ?_
  refine j_aload_n (dk dt_X11_init 84 rfl) rfl ?_
  obtain ⟨k_174, H⟩ := H
  refine jz_getO (kz := 8) (dk dt_X11_init 85 rfl) fl_X11_70 rfl rfl rfl k_174 ?_
  obtain ⟨a_177, e_177, k_177, H⟩ := H
  refine jz_alen (t := 1) (dk dt_X11_init 86 rfl) e_177 k_177 (by decide) hw ?_
  refine jz_icmp_ge 194 (dk dt_X11_init 87 rfl) (by decide) r_x2 (r32_len hw _) H (fun H => ?_) (fun H => ?_)
  · exact j_el (he0 _ H hw) trivial
  · refine j_aload_n (dk dt_X11_init 88 rfl) rfl ?_
    refine jz_getO (kz := 8) (dk dt_X11_init 89 rfl) fl_X11_70 rfl rfl rfl k_174 ?_
    refine j_iload_n (dk dt_X11_init 90 rfl) rfl ?_
    refine j_iconst (v := Int32.ofInt (-1)) (dk dt_X11_init 91 rfl) (by decide) ?_
    obtain ⟨p_187, q_187, H⟩ := H
    refine jz_iast (dk dt_X11_init 92 rfl) e_177 k_177 p_187 q_187 hw (by decide) (fun w_187 => ?_)
    replace H := H _ rfl
    refine jz_iinc (dk dt_X11_init 93 rfl) rfl ?_
    refine j_goto 172 (dk dt_X11_init 94 rfl) (by decide) ?_
    exact j_el (hl _ _ H w_187 (r32_w _)) (And.intro rfl (And.intro rfl trivial))
def F_X11_init_172  (t0 : Nat) (x2 : Int) (z : Z) (c : Nat) (s : Nat) (P : Z → Prop) : Prop :=
  lp (S := Int × Z) (E := (Z)) (fun q P_ => L_X11_init_172 t0 q.1 q.2 c s P_) (x2, z) (fun (z : Z) => P z)
theorem T_X11_init_172  {t0 : Nat} {x2 : Int} {z : Z} {c : Nat} {s : Nat} {P : Z → Prop} (r_x2 : R32 x2) (hw : Wz z)   (H : F_X11_init_172 t0 x2 z c s P) : J mX11_init 6 c s (nx (QZV P)) 172 [some (vr (some t0)), none, some (ii (x2))] [] (cz z) := by
  unfold F_X11_init_172 at H
  refine lp_J (G := fun q => Wz (q.2) → R32 (q.1) → J mX11_init 6 c s (nx (QZV P)) 172 [some (vr (some t0)), none, some (ii ((q.1)))] [] (cz (q.2))) (fun q P_ hl_ he_ Hb => ?_) (x2, z) H hw r_x2
  obtain ⟨x2, z⟩ := q
  intro hw r_x2
  refine U_X11_init_172 (P := P_) r_x2 hw  (fun x2 z Hp hw r_x2 => hl_ (x2, z) Hp hw r_x2) ?_ Hb
  · intro z Hp hw
    have H := he_ _ Hp
    exact j_return (dk dt_X11_init 95 rfl) rfl ⟨_, rfl, rfl, hw, H⟩
def F_X11_init_162  (t0 : Nat) (x1 : Option Nat) (z : Z) (c : Nat) (s : Nat) (P : Z → Prop) : Prop :=
  (∃ a_164, x1 = some a_164 ∧ zK z a_164 = 7 ∧ (∃ c_164 s_164, c_164 ≤ c ∧ s_164 ≤ s ∧ F_X6_twin a_164 z c_164 s_164 (fun x_164 z_164 => (zK z_164 t0 = 12 ∧ (∀ z_167, z_167 = wO z_164 t0 11 x_164 → F_X11_init_172 t0 1 z_167 (c - c_164) (s - s_164) P)))))
theorem T_X11_init_162  {t0 : Nat} {x1 : Option Nat} {z : Z} {c : Nat} {s : Nat} {P : Z → Prop}  (hw : Wz z)   (H : F_X11_init_162 t0 x1 z c s P) : J mX11_init 6 c s (nx (QZV P)) 162 [some (vr (some t0)), some (vr (x1)), none] [] (cz z) := by
  unfold F_X11_init_162 at H
  refine j_aload_n (dk dt_X11_init 77 rfl) rfl ?_
  refine j_aload_n (dk dt_X11_init 78 rfl) rfl ?_
  obtain ⟨a_164, e_164, k_164, H⟩ := H
  obtain ⟨c_164, s_164, hc_164, hs_164, H⟩ := H
  refine jz_callV0 (dk dt_X11_init 79 rfl) vl_X11_100 e_164 (T_X6_twin hw H) k_164 rfl (by decide) hc_164 hs_164 (Nat.le_of_ble_eq_true rfl) (fun v_164 h_164 P_164 => ?_)
  obtain ⟨x_164, z_164, rfl, rfl, w_164, H⟩ := P_164
  dsimp only [rs]
  obtain ⟨k_167, H⟩ := H
  refine jz_putO (kz := 11) (dk dt_X11_init 80 rfl) fl_X11_104 rfl rfl rfl k_167 w_164 (fun w_167 => ?_)
  replace H := H _ rfl
  refine j_iconst (v := Int32.ofInt 1) (dk dt_X11_init 81 rfl) (by decide) ?_
  refine j_istore_n (dk dt_X11_init 82 rfl) (by decide) ?_
  exact j_el (T_X11_init_172 (by decide) w_167   H) (And.intro rfl (And.intro rfl trivial))
def F_X11_init_133  (t0 : Nat) (z : Z) (c : Nat) (s : Nat) (P : Z → Prop) : Prop :=
  (1 ≤ c ∧ 4 ≤ s ∧ ∀ a_133, zK z a_133 = 0 → (∀ z_133, z_133 = nZ z a_133 7 0 → (∃ c_139 s_139, c_139 ≤ c - 1 ∧ s_139 ≤ s - 4 ∧ F_X11_countedUp 8 z_133 c_139 s_139 (fun x_139 z_139 => (∃ c_144 s_144, c_144 ≤ (c - 1) - c_139 ∧ s_144 ≤ (s - 4) - s_139 ∧ F_X11_countedUp 6 z_139 c_144 s_144 (fun x_144 z_144 => (zK z_144 a_133 = 7 ∧ (∃ c_147 s_147, c_147 ≤ ((c - 1) - c_139) - c_144 ∧ s_147 ≤ ((s - 4) - s_139) - s_144 ∧ F_X6_init a_133 x_139 x_144 z_144 c_147 s_147 (fun z_147 => (zK z_147 t0 = 12 ∧ (∃ a_158, zO z_147 t0 2 = some a_158 ∧ zK z_147 a_158 = 3 ∧ F_X2_add a_158 (some a_133) (-1) (-1) z_147 (fun x_158 z_158 => F_X11_init_162 t0 (some a_133) z_158 ((((c - 1) - c_139) - c_144) - c_147) ((((s - 4) - s_139) - s_144) - s_147) P))))))))))))
theorem T_X11_init_133  {t0 : Nat} {z : Z} {c : Nat} {s : Nat} {P : Z → Prop}  (hw : Wz z)   (H : F_X11_init_133 t0 z c s P) : J mX11_init 6 c s (nx (QZV P)) 133 [some (vr (some t0)), none, none] [] (cz z) := by
  unfold F_X11_init_133 at H
  obtain ⟨hc_133, hs_133, H⟩ := H
  refine jz_new (dk dt_X11_init 62 rfl) cl_6 nl_X11_87 iw_6 zw_6 rfl hc_133 hs_133 hw (fun a_133 e_133 w_133 => ?_)
  replace H := H a_133 e_133
  replace H := H _ rfl
  refine j_dup (dk dt_X11_init 63 rfl) rfl ?_
  refine j_bipush (v := Int32.ofInt 8) (dk dt_X11_init 64 rfl) (by decide) ?_
  obtain ⟨c_139, s_139, hc_139, hs_139, H⟩ := H
  refine j_callS1 (dk dt_X11_init 65 rfl) sl_X11_89 (T_X11_countedUp (by decide) w_133 H) rfl (by decide) hc_139 hs_139 (Nat.le_of_ble_eq_true rfl) (fun v_139 h_139 P_139 => ?_)
  obtain ⟨x_139, z_139, rfl, rfl, w_139, H⟩ := P_139
  dsimp only [rs]
  refine j_bipush (v := Int32.ofInt 6) (dk dt_X11_init 66 rfl) (by decide) ?_
  obtain ⟨c_144, s_144, hc_144, hs_144, H⟩ := H
  refine j_callS1 (dk dt_X11_init 67 rfl) sl_X11_89 (T_X11_countedUp (by decide) w_139 H) rfl (by decide) hc_144 hs_144 (Nat.le_of_ble_eq_true rfl) (fun v_144 h_144 P_144 => ?_)
  obtain ⟨x_144, z_144, rfl, rfl, w_144, H⟩ := P_144
  dsimp only [rs]
  obtain ⟨k_147, H⟩ := H
  obtain ⟨c_147, s_147, hc_147, hs_147, H⟩ := H
  refine jz_callI2 (dk dt_X11_init 68 rfl) il_X11_93 rfl (T_X6_init w_144 H) rfl (by decide) hc_147 hs_147 (Nat.le_of_ble_eq_true rfl) (fun v_147 h_147 P_147 => ?_)
  obtain ⟨z_147, rfl, rfl, w_147, H⟩ := P_147
  dsimp only [rs]
  refine j_astore_n (dk dt_X11_init 69 rfl) (by decide) ?_
  refine j_aload_n (dk dt_X11_init 70 rfl) rfl ?_
  obtain ⟨k_152, H⟩ := H
  refine jz_getO (kz := 2) (dk dt_X11_init 71 rfl) fl_X11_26 rfl rfl rfl k_152 ?_
  refine j_aload_n (dk dt_X11_init 72 rfl) rfl ?_
  refine j_iconst (v := Int32.ofInt (-1)) (dk dt_X11_init 73 rfl) (by decide) ?_
  refine j_iconst (v := Int32.ofInt (-1)) (dk dt_X11_init 74 rfl) (by decide) ?_
  obtain ⟨a_158, e_158, k_158, H⟩ := H
  refine jz_callV3 (dk dt_X11_init 75 rfl) vl_X11_96 e_158 (T_X2_add (by decide) (by decide) w_147 H) k_158 rfl (by decide) (Nat.zero_le _) (Nat.zero_le _) (Nat.le_of_ble_eq_true rfl) (fun v_158 h_158 P_158 => ?_)
  obtain ⟨x_158, z_158, rfl, r_158, rfl, w_158, H⟩ := P_158
  dsimp only [rs]
  refine j_pop (dk dt_X11_init 76 rfl) rfl ?_
  exact j_el (T_X11_init_162  w_158   H) (And.intro rfl (And.intro rfl trivial))
def F_X11_init_107  (t0 : Nat) (z : Z) (c : Nat) (s : Nat) (P : Z → Prop) : Prop :=
  ((0 : Int) ≤ 1218 ∧ 1218 < (33554432 : Int) ∧ 1 ≤ c ∧ Int.toNat 1218 ≤ s ∧ ∀ a_111, zK z a_111 = 0 → (∀ z_111, z_111 = nZ z a_111 15 1218 → (zK z_111 t0 = 12 ∧ (∀ z_113, z_113 = wO z_111 t0 9 (some a_111) → (∀ z_118, z_118 = wI z_113 t0 13 (-1) → (∀ z_124, z_124 = wI z_118 t0 16 8 → (∀ z_130, z_130 = wI z_124 t0 17 6 → F_X11_init_133 t0 z_130 (c - 1) (s - Int.toNat 1218) P)))))))
theorem T_X11_init_107  {t0 : Nat} {z : Z} {c : Nat} {s : Nat} {P : Z → Prop}  (hw : Wz z)   (H : F_X11_init_107 t0 z c s P) : J mX11_init 6 c s (nx (QZV P)) 107 [some (vr (some t0)), none, none] [] (cz z) := by
  unfold F_X11_init_107 at H
  refine j_aload_n (dk dt_X11_init 49 rfl) rfl ?_
  refine j_sipush (v := Int32.ofInt 1218) (dk dt_X11_init 50 rfl) (by decide) ?_
  obtain ⟨p_111, q_111, hc_111, hs_111, H⟩ := H
  refine jz_newI (dk dt_X11_init 51 rfl) p_111 q_111 hc_111 hs_111 hw (fun a_111 e_111 w_111 => ?_)
  replace H := H a_111 e_111
  replace H := H _ rfl
  obtain ⟨k_113, H⟩ := H
  refine jz_putOF (kz := 9) (dk dt_X11_init 52 rfl) fl_X11_74 rfl (fun _ _ q => by cases q; rfl) rfl rfl rfl k_113 w_111 (fun w_113 => ?_)
  replace H := H _ rfl
  refine j_aload_n (dk dt_X11_init 53 rfl) rfl ?_
  refine j_iconst (v := Int32.ofInt (-1)) (dk dt_X11_init 54 rfl) (by decide) ?_
  refine jz_putI (kz := 13) (dk dt_X11_init 55 rfl) fl_X11_77 rfl rfl rfl rfl rfl k_113 w_113 (by decide) (fun w_118 => ?_)
  replace H := H _ rfl
  refine j_aload_n (dk dt_X11_init 56 rfl) rfl ?_
  refine j_bipush (v := Int32.ofInt 8) (dk dt_X11_init 57 rfl) (by decide) ?_
  refine jz_putI (kz := 16) (dk dt_X11_init 58 rfl) fl_X11_81 rfl rfl rfl rfl rfl k_113 w_118 (by decide) (fun w_124 => ?_)
  replace H := H _ rfl
  refine j_aload_n (dk dt_X11_init 59 rfl) rfl ?_
  refine j_bipush (v := Int32.ofInt 6) (dk dt_X11_init 60 rfl) (by decide) ?_
  refine jz_putI (kz := 17) (dk dt_X11_init 61 rfl) fl_X11_84 rfl rfl rfl rfl rfl k_113 w_124 (by decide) (fun w_130 => ?_)
  replace H := H _ rfl
  exact j_el (T_X11_init_133  w_130   H) (And.intro rfl trivial)
def F_X11_init_77  (t0 : Nat) (z : Z) (c : Nat) (s : Nat) (P : Z → Prop) : Prop :=
  (1 ≤ c ∧ 4 ≤ s ∧ ∀ a_78, zK z a_78 = 0 → (∀ z_78, z_78 = nZ z a_78 9 0 → (∃ c_83 s_83, c_83 ≤ c - 1 ∧ s_83 ≤ s - 4 ∧ F_X8_init a_78 0 z_78 c_83 s_83 (fun z_83 => (zK z_83 t0 = 12 ∧ (∀ z_86, z_86 = wO z_83 t0 6 (some a_78) → ((0 : Int) ≤ 320 ∧ 320 < (33554432 : Int) ∧ 1 ≤ (c - 1) - c_83 ∧ Int.toNat 320 ≤ (s - 4) - s_83 ∧ ∀ a_93, zK z_86 a_93 = 0 → (∀ z_93, z_93 = nZ z_86 a_93 22 320 → (zK z_93 t0 = 12 ∧ (∀ z_96, z_96 = wO z_93 t0 7 (some a_93) → ((0 : Int) ≤ 6 ∧ 6 < (33554432 : Int) ∧ 1 ≤ ((c - 1) - c_83) - 1 ∧ Int.toNat 6 ≤ ((s - 4) - s_83) - Int.toNat 320 ∧ ∀ a_102, zK z_96 a_102 = 0 → (∀ z_102, z_102 = nZ z_96 a_102 15 6 → (zK z_102 t0 = 12 ∧ (∀ z_104, z_104 = wO z_102 t0 8 (some a_102) → F_X11_init_107 t0 z_104 ((((c - 1) - c_83) - 1) - 1) ((((s - 4) - s_83) - Int.toNat 320) - Int.toNat 6) P))))))))))))))
theorem T_X11_init_77  {t0 : Nat} {z : Z} {c : Nat} {s : Nat} {P : Z → Prop}  (hw : Wz z)   (H : F_X11_init_77 t0 z c s P) : J mX11_init 6 c s (nx (QZV P)) 77 [some (vr (some t0)), none, none] [] (cz z) := by
  unfold F_X11_init_77 at H
  refine j_aload_n (dk dt_X11_init 35 rfl) rfl ?_
  obtain ⟨hc_78, hs_78, H⟩ := H
  refine jz_new (dk dt_X11_init 36 rfl) cl_8 nl_X11_57 iw_8 zw_8 rfl hc_78 hs_78 hw (fun a_78 e_78 w_78 => ?_)
  replace H := H a_78 e_78
  replace H := H _ rfl
  refine j_dup (dk dt_X11_init 37 rfl) rfl ?_
  refine j_iconst (v := Int32.ofInt 0) (dk dt_X11_init 38 rfl) (by decide) ?_
  obtain ⟨c_83, s_83, hc_83, hs_83, H⟩ := H
  refine jz_callI1 (dk dt_X11_init 39 rfl) il_X11_59 rfl (T_X8_init (by decide) w_78 H) rfl (by decide) hc_83 hs_83 (Nat.le_of_ble_eq_true rfl) (fun v_83 h_83 P_83 => ?_)
  obtain ⟨z_83, rfl, rfl, w_83, H⟩ := P_83
  dsimp only [rs]
  obtain ⟨k_86, H⟩ := H
  refine jz_putOF (kz := 6) (dk dt_X11_init 40 rfl) fl_X11_62 rfl (fun _ _ q => by cases q; rfl) rfl rfl rfl k_86 w_83 (fun w_86 => ?_)
  replace H := H _ rfl
  refine j_aload_n (dk dt_X11_init 41 rfl) rfl ?_
  refine j_sipush (v := Int32.ofInt 320) (dk dt_X11_init 42 rfl) (by decide) ?_
  obtain ⟨p_93, q_93, hc_93, hs_93, H⟩ := H
  refine jz_newQ (t := 8) (dk dt_X11_init 43 rfl) nl_X11_57 ao_8 (by decide) (fun _ => rfl) p_93 q_93 hc_93 hs_93 w_86 (fun a_93 e_93 w_93 => ?_)
  replace H := H a_93 e_93
  replace H := H _ rfl
  obtain ⟨k_96, H⟩ := H
  refine jz_putOF (kz := 7) (dk dt_X11_init 44 rfl) fl_X11_66 rfl (fun _ _ q => by cases q; rfl) rfl rfl rfl k_96 w_93 (fun w_96 => ?_)
  replace H := H _ rfl
  refine j_aload_n (dk dt_X11_init 45 rfl) rfl ?_
  refine j_bipush (v := Int32.ofInt 6) (dk dt_X11_init 46 rfl) (by decide) ?_
  obtain ⟨p_102, q_102, hc_102, hs_102, H⟩ := H
  refine jz_newI (dk dt_X11_init 47 rfl) p_102 q_102 hc_102 hs_102 w_96 (fun a_102 e_102 w_102 => ?_)
  replace H := H a_102 e_102
  replace H := H _ rfl
  obtain ⟨k_104, H⟩ := H
  refine jz_putOF (kz := 8) (dk dt_X11_init 48 rfl) fl_X11_70 rfl (fun _ _ q => by cases q; rfl) rfl rfl rfl k_104 w_102 (fun w_104 => ?_)
  replace H := H _ rfl
  exact j_el (T_X11_init_107  w_104   H) (And.intro rfl trivial)
def F_X11_init_55  (t0 : Nat) (z : Z) (c : Nat) (s : Nat) (P : Z → Prop) : Prop :=
  (1 ≤ c ∧ 6 ≤ s ∧ ∀ a_56, zK z a_56 = 0 → (∀ z_56, z_56 = nZ z a_56 4 0 → (∃ c_60 s_60, c_60 ≤ c - 1 ∧ s_60 ≤ s - 6 ∧ F_X3_init a_56 z_56 c_60 s_60 (fun z_60 => (zK z_60 t0 = 12 ∧ (∀ z_63, z_63 = wO z_60 t0 4 (some a_56) → (1 ≤ (c - 1) - c_60 ∧ 4 ≤ (s - 6) - s_60 ∧ ∀ a_67, zK z_63 a_67 = 0 → (∀ z_67, z_67 = nZ z_63 a_67 8 0 → (∃ c_71 s_71, c_71 ≤ ((c - 1) - c_60) - 1 ∧ s_71 ≤ ((s - 6) - s_60) - 4 ∧ F_X7_init a_67 z_67 c_71 s_71 (fun z_71 => (zK z_71 t0 = 12 ∧ (∀ z_74, z_74 = wO z_71 t0 5 (some a_67) → F_X11_init_77 t0 z_74 ((((c - 1) - c_60) - 1) - c_71) ((((s - 6) - s_60) - 4) - s_71) P))))))))))))
theorem T_X11_init_55  {t0 : Nat} {z : Z} {c : Nat} {s : Nat} {P : Z → Prop}  (hw : Wz z)   (H : F_X11_init_55 t0 z c s P) : J mX11_init 6 c s (nx (QZV P)) 55 [some (vr (some t0)), none, none] [] (cz z) := by
  unfold F_X11_init_55 at H
  refine j_aload_n (dk dt_X11_init 25 rfl) rfl ?_
  obtain ⟨hc_56, hs_56, H⟩ := H
  refine jz_new (dk dt_X11_init 26 rfl) cl_3 nl_X11_43 iw_3 zw_3 rfl hc_56 hs_56 hw (fun a_56 e_56 w_56 => ?_)
  replace H := H a_56 e_56
  replace H := H _ rfl
  refine j_dup (dk dt_X11_init 27 rfl) rfl ?_
  obtain ⟨c_60, s_60, hc_60, hs_60, H⟩ := H
  refine jz_callIN0 (dk dt_X11_init 28 rfl) inl_X11_45 rfl (T_X3_init w_56 H) rfl (by decide) hc_60 hs_60 (Nat.le_of_ble_eq_true rfl) (fun v_60 h_60 P_60 => ?_)
  obtain ⟨z_60, rfl, rfl, w_60, H⟩ := P_60
  dsimp only [rs]
  obtain ⟨k_63, H⟩ := H
  refine jz_putOF (kz := 4) (dk dt_X11_init 29 rfl) fl_X11_46 rfl (fun _ _ q => by cases q; rfl) rfl rfl rfl k_63 w_60 (fun w_63 => ?_)
  replace H := H _ rfl
  refine j_aload_n (dk dt_X11_init 30 rfl) rfl ?_
  obtain ⟨hc_67, hs_67, H⟩ := H
  refine jz_new (dk dt_X11_init 31 rfl) cl_7 nl_X11_50 iw_7 zw_7 rfl hc_67 hs_67 w_63 (fun a_67 e_67 w_67 => ?_)
  replace H := H a_67 e_67
  replace H := H _ rfl
  refine j_dup (dk dt_X11_init 32 rfl) rfl ?_
  obtain ⟨c_71, s_71, hc_71, hs_71, H⟩ := H
  refine jz_callIN0 (dk dt_X11_init 33 rfl) inl_X11_52 rfl (T_X7_init w_67 H) rfl (by decide) hc_71 hs_71 (Nat.le_of_ble_eq_true rfl) (fun v_71 h_71 P_71 => ?_)
  obtain ⟨z_71, rfl, rfl, w_71, H⟩ := P_71
  dsimp only [rs]
  obtain ⟨k_74, H⟩ := H
  refine jz_putOF (kz := 5) (dk dt_X11_init 34 rfl) fl_X11_53 rfl (fun _ _ q => by cases q; rfl) rfl rfl rfl k_74 w_71 (fun w_74 => ?_)
  replace H := H _ rfl
  exact j_el (T_X11_init_77  w_74   H) (And.intro rfl trivial)
def F_X11_init_26  (t0 : Nat) (z : Z) (c : Nat) (s : Nat) (P : Z → Prop) : Prop :=
  (1 ≤ c ∧ 5 ≤ s ∧ ∀ a_27, zK z a_27 = 0 → (∀ z_27, z_27 = nZ z a_27 3 0 → (∃ c_31 s_31, c_31 ≤ c - 1 ∧ s_31 ≤ s - 5 ∧ F_X2_init a_27 z_27 c_31 s_31 (fun z_31 => (zK z_31 t0 = 12 ∧ (∀ z_34, z_34 = wO z_31 t0 2 (some a_27) → (1 ≤ (c - 1) - c_31 ∧ 21 ≤ (s - 5) - s_31 ∧ ∀ a_38, zK z_34 a_38 = 0 → (∀ z_38, z_38 = nZ z_34 a_38 10 0 → (zK z_38 t0 = 12 ∧ (∃ a_46, zO z_38 t0 2 = some a_46 ∧ zK z_38 a_46 = 3 ∧ (∃ c_49 s_49, c_49 ≤ ((c - 1) - c_31) - 1 ∧ s_49 ≤ ((s - 5) - s_31) - 21 ∧ F_X9_init a_38 (zO z_38 a_46 0) z_38 c_49 s_49 (fun z_49 => (zK z_49 t0 = 12 ∧ (∀ z_52, z_52 = wO z_49 t0 3 (some a_38) → F_X11_init_55 t0 z_52 ((((c - 1) - c_31) - 1) - c_49) ((((s - 5) - s_31) - 21) - s_49) P))))))))))))))
theorem T_X11_init_26  {t0 : Nat} {z : Z} {c : Nat} {s : Nat} {P : Z → Prop}  (hw : Wz z)   (H : F_X11_init_26 t0 z c s P) : J mX11_init 6 c s (nx (QZV P)) 26 [some (vr (some t0)), none, none] [] (cz z) := by
  unfold F_X11_init_26 at H
  refine j_aload_n (dk dt_X11_init 12 rfl) rfl ?_
  obtain ⟨hc_27, hs_27, H⟩ := H
  refine jz_new (dk dt_X11_init 13 rfl) cl_2 nl_X11_23 iw_2 zw_2 rfl hc_27 hs_27 hw (fun a_27 e_27 w_27 => ?_)
  replace H := H a_27 e_27
  replace H := H _ rfl
  refine j_dup (dk dt_X11_init 14 rfl) rfl ?_
  obtain ⟨c_31, s_31, hc_31, hs_31, H⟩ := H
  refine jz_callIN0 (dk dt_X11_init 15 rfl) inl_X11_25 rfl (T_X2_init w_27 H) rfl (by decide) hc_31 hs_31 (Nat.le_of_ble_eq_true rfl) (fun v_31 h_31 P_31 => ?_)
  obtain ⟨z_31, rfl, rfl, w_31, H⟩ := P_31
  dsimp only [rs]
  obtain ⟨k_34, H⟩ := H
  refine jz_putOF (kz := 2) (dk dt_X11_init 16 rfl) fl_X11_26 rfl (fun _ _ q => by cases q; rfl) rfl rfl rfl k_34 w_31 (fun w_34 => ?_)
  replace H := H _ rfl
  refine j_aload_n (dk dt_X11_init 17 rfl) rfl ?_
  obtain ⟨hc_38, hs_38, H⟩ := H
  refine jz_new (dk dt_X11_init 18 rfl) cl_9 nl_X11_30 iw_9 zw_9 rfl hc_38 hs_38 w_34 (fun a_38 e_38 w_38 => ?_)
  replace H := H a_38 e_38
  replace H := H _ rfl
  refine j_dup (dk dt_X11_init 19 rfl) rfl ?_
  refine j_aload_n (dk dt_X11_init 20 rfl) rfl ?_
  obtain ⟨k_43, H⟩ := H
  refine jz_getO (kz := 2) (dk dt_X11_init 21 rfl) fl_X11_26 rfl rfl rfl k_43 ?_
  obtain ⟨a_46, e_46, k_46, H⟩ := H
  refine jz_getO (kz := 0) (dk dt_X11_init 22 rfl) fl_X11_32 rfl rfl e_46 k_46 ?_
  obtain ⟨c_49, s_49, hc_49, hs_49, H⟩ := H
  refine jz_callI1 (dk dt_X11_init 23 rfl) il_X11_36 rfl (T_X9_init w_38 H) rfl (by decide) hc_49 hs_49 (Nat.le_of_ble_eq_true rfl) (fun v_49 h_49 P_49 => ?_)
  obtain ⟨z_49, rfl, rfl, w_49, H⟩ := P_49
  dsimp only [rs]
  obtain ⟨k_52, H⟩ := H
  refine jz_putOF (kz := 3) (dk dt_X11_init 24 rfl) fl_X11_39 rfl (fun _ _ q => by cases q; rfl) rfl rfl rfl k_52 w_49 (fun w_52 => ?_)
  replace H := H _ rfl
  exact j_el (T_X11_init_55  w_52   H) (And.intro rfl trivial)
def F_X11_init  (t0 : Nat) (z : Z) (c : Nat) (s : Nat) (P : Z → Prop) : Prop :=
  (1 ≤ c ∧ 17 ≤ s ∧ ∀ a_5, zK z a_5 = 0 → (∀ z_5, z_5 = nZ z a_5 6 0 → (∃ c_9 s_9, c_9 ≤ c - 1 ∧ s_9 ≤ s - 17 ∧ F_X5_init a_5 z_5 c_9 s_9 (fun z_9 => (zK z_9 t0 = 12 ∧ (∀ z_12, z_12 = wO z_9 t0 0 (some a_5) → (1 ≤ (c - 1) - c_9 ∧ 7 ≤ (s - 17) - s_9 ∧ ∀ a_16, zK z_12 a_16 = 0 → (∀ z_16, z_16 = nZ z_12 a_16 11 0 → (∃ c_20 s_20, c_20 ≤ ((c - 1) - c_9) - 1 ∧ s_20 ≤ ((s - 17) - s_9) - 7 ∧ F_X10_init a_16 z_16 c_20 s_20 (fun z_20 => (zK z_20 t0 = 12 ∧ (∀ z_23, z_23 = wO z_20 t0 1 (some a_16) → F_X11_init_26 t0 z_23 ((((c - 1) - c_9) - 1) - c_20) ((((s - 17) - s_9) - 7) - s_20) P))))))))))))
theorem T_X11_init  {t0 : Nat} {z : Z} {c : Nat} {s : Nat} {P : Z → Prop}  (hw : Wz z)  (H : F_X11_init t0 z c s P) : Con mX11_init 6 c s [vr (some t0)] (cz z) (QZV P) := by
  refine con_of rfl (Nat.le_of_ble_eq_true rfl) (by decide) ?_
  show J mX11_init 6 c s _ 0 [some (vr (some t0)), none, none] [] (cz z)
  unfold F_X11_init at H
  refine j_aload_n (dk dt_X11_init 0 rfl) rfl ?_
  refine j_objInit (dk dt_X11_init 1 rfl) ol_X11_1 ob_1 ob_2 (by decide) (Nat.le_of_ble_eq_true rfl) ?_
  refine j_aload_n (dk dt_X11_init 2 rfl) rfl ?_
  obtain ⟨hc_5, hs_5, H⟩ := H
  refine jz_new (dk dt_X11_init 3 rfl) cl_5 nl_X11_7 iw_5 zw_5 rfl hc_5 hs_5 hw (fun a_5 e_5 w_5 => ?_)
  replace H := H a_5 e_5
  replace H := H _ rfl
  refine j_dup (dk dt_X11_init 4 rfl) rfl ?_
  obtain ⟨c_9, s_9, hc_9, hs_9, H⟩ := H
  refine jz_callIN0 (dk dt_X11_init 5 rfl) inl_X11_9 rfl (T_X5_init w_5 H) rfl (by decide) hc_9 hs_9 (Nat.le_of_ble_eq_true rfl) (fun v_9 h_9 P_9 => ?_)
  obtain ⟨z_9, rfl, rfl, w_9, H⟩ := P_9
  dsimp only [rs]
  obtain ⟨k_12, H⟩ := H
  refine jz_putOF (kz := 0) (dk dt_X11_init 6 rfl) fl_X11_10 rfl (fun _ _ q => by cases q; rfl) rfl rfl rfl k_12 w_9 (fun w_12 => ?_)
  replace H := H _ rfl
  refine j_aload_n (dk dt_X11_init 7 rfl) rfl ?_
  obtain ⟨hc_16, hs_16, H⟩ := H
  refine jz_new (dk dt_X11_init 8 rfl) cl_10 nl_X11_16 iw_10 zw_10 rfl hc_16 hs_16 w_12 (fun a_16 e_16 w_16 => ?_)
  replace H := H a_16 e_16
  replace H := H _ rfl
  refine j_dup (dk dt_X11_init 9 rfl) rfl ?_
  obtain ⟨c_20, s_20, hc_20, hs_20, H⟩ := H
  refine jz_callIN0 (dk dt_X11_init 10 rfl) inl_X11_18 rfl (T_X10_init w_16 H) rfl (by decide) hc_20 hs_20 (Nat.le_of_ble_eq_true rfl) (fun v_20 h_20 P_20 => ?_)
  obtain ⟨z_20, rfl, rfl, w_20, H⟩ := P_20
  dsimp only [rs]
  obtain ⟨k_23, H⟩ := H
  refine jz_putOF (kz := 1) (dk dt_X11_init 11 rfl) fl_X11_19 rfl (fun _ _ q => by cases q; rfl) rfl rfl rfl k_23 w_20 (fun w_23 => ?_)
  replace H := H _ rfl
  exact j_el (T_X11_init_26  w_23   H) (And.intro rfl trivial)
