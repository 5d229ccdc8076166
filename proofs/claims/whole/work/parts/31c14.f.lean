def F_X3_noteLine_125  (t0 : Nat) (x1 : Int) (x2 : Option Nat) (x3 : Int) (z : Z) (c : Nat) (s : Nat) (P : (Int × Z × Nat × Nat) ⊕ ((Z × Nat × Nat)) → Prop) : Prop :=
  P (.inl (w32 (x3 + 1), z, c, s))
theorem T_X3_noteLine_125  {t0 : Nat} {x1 : Int} {x2 : Option Nat} {x3 : Int} {z : Z} {c : Nat} {s : Nat} {P : (Int × Z × Nat × Nat) ⊕ ((Z × Nat × Nat)) → Prop} {post : Option Sv ⊕ String → Hp → Prop} (r_x1 : R32 x1) (r_x3 : R32 x3) (hw : Wz z)  (hl : ∀ (x3 : Int) (z : Z) (c : Nat) (s : Nat), P (.inl (x3, z, c, s)) → Wz z → R32 x3 → J mX3_noteLine 5 c s post 2 [some (vr (some t0)), some (ii (x1)), some (vr (x2)), some (ii (x3)), none, none, none, none] [] (cz z)) (he0 : ∀ (z : Z) (c : Nat) (s : Nat), P (.inr (z, c, s)) → Wz z → J mX3_noteLine 5 c s post 131 [none, none, none, none, none, none, none, none] [] (cz z)) (H : F_X3_noteLine_125 t0 x1 x2 x3 z c s P) : J mX3_noteLine 5 c s (post) 125 [some (vr (some t0)), some (ii (x1)), some (vr (x2)), some (ii (x3)), none, none, none, none] [] (cz z) := by
  unfold F_X3_noteLine_125 at H
  refine jz_iinc (dk dt_X3_noteLine 72 rfl) rfl ?_
  refine j_goto 2 (dk dt_X3_noteLine 73 rfl) (by decide) ?_
  exact j_el (hl _ _ _ _ H hw (r32_w _)) (And.intro rfl (And.intro rfl (And.intro rfl (And.intro rfl trivial))))
def F_X3_noteLine_111  (t0 : Nat) (x1 : Int) (x2 : Option Nat) (x3 : Int) (x4 : Int) (x6 : Int) (x7 : Int) (s0 : Option Nat) (s1 : Option Nat) (s2 : Option Nat) (s3 : Int) (z : Z) (c : Nat) (s : Nat) (P : (Int × Z × Nat × Nat) ⊕ ((Z × Nat × Nat)) → Prop) : Prop :=
  (∃ a_119, s2 = some a_119 ∧ zK z a_119 = 1 ∧ F_X0_init a_119 s3 x6 x7 x4 none none z (fun z_119 => (∃ a_122, s0 = some a_122 ∧ zK z_119 a_122 = 4 ∧ F_X3_note a_122 s1 z_119 (fun z_122 => F_X3_noteLine_125 t0 x1 x2 x3 z_122 c s P))))
theorem T_X3_noteLine_111  {t0 : Nat} {x1 : Int} {x2 : Option Nat} {x3 : Int} {x4 : Int} {x6 : Int} {x7 : Int} {s0 : Option Nat} {s1 : Option Nat} {s2 : Option Nat} {s3 : Int} {z : Z} {c : Nat} {s : Nat} {P : (Int × Z × Nat × Nat) ⊕ ((Z × Nat × Nat)) → Prop} {post : Option Sv ⊕ String → Hp → Prop} (r_x1 : R32 x1) (r_x3 : R32 x3) (r_x4 : R32 x4) (r_x6 : R32 x6) (r_x7 : R32 x7) (r_s3 : R32 s3) (hw : Wz z)  (hl : ∀ (x3 : Int) (z : Z) (c : Nat) (s : Nat), P (.inl (x3, z, c, s)) → Wz z → R32 x3 → J mX3_noteLine 5 c s post 2 [some (vr (some t0)), some (ii (x1)), some (vr (x2)), some (ii (x3)), none, none, none, none] [] (cz z)) (he0 : ∀ (z : Z) (c : Nat) (s : Nat), P (.inr (z, c, s)) → Wz z → J mX3_noteLine 5 c s post 131 [none, none, none, none, none, none, none, none] [] (cz z)) (H : F_X3_noteLine_111 t0 x1 x2 x3 x4 x6 x7 s0 s1 s2 s3 z c s P) : J mX3_noteLine 5 c s (post) 111 [some (vr (some t0)), some (ii (x1)), some (vr (x2)), some (ii (x3)), some (ii (x4)), none, some (ii (x6)), some (ii (x7))] [ii (s3), vr (s2), vr (s1), vr (s0)] (cz z) := by
  unfold F_X3_noteLine_111 at H
  refine j_iload (dk dt_X3_noteLine 65 rfl) rfl ?_
  refine j_iload (dk dt_X3_noteLine 66 rfl) rfl ?_
  refine j_iload (dk dt_X3_noteLine 67 rfl) rfl ?_
  refine j_null (dk dt_X3_noteLine 68 rfl) ?_
  refine j_null (dk dt_X3_noteLine 69 rfl) ?_
  obtain ⟨a_119, e_119, k_119, H⟩ := H
  refine jz_callI6 (dk dt_X3_noteLine 70 rfl) il_X3_97 e_119 (T_X0_init r_s3 r_x6 r_x7 r_x4 hw H) rfl (by decide) (Nat.zero_le _) (Nat.zero_le _) (Nat.le_of_ble_eq_true rfl) (fun v_119 h_119 P_119 => ?_)
  obtain ⟨z_119, rfl, rfl, w_119, H⟩ := P_119
  dsimp only [rs]
  obtain ⟨a_122, e_122, k_122, H⟩ := H
  refine jz_callV1 (dk dt_X3_noteLine 71 rfl) vl_X3_100 e_122 (T_X3_note w_119 H) k_122 rfl (by decide) (Nat.zero_le _) (Nat.zero_le _) (Nat.le_of_ble_eq_true rfl) (fun v_122 h_122 P_122 => ?_)
  obtain ⟨z_122, rfl, rfl, w_122, H⟩ := P_122
  dsimp only [rs]
  exact j_el (T_X3_noteLine_125 r_x1 r_x3 w_122  hl he0 H) (And.intro rfl (And.intro rfl (And.intro rfl (And.intro rfl trivial))))
def F_X3_noteLine_95  (t0 : Nat) (x1 : Int) (x2 : Option Nat) (x3 : Int) (x4 : Int) (x6 : Int) (s0 : Int) (z : Z) (c : Nat) (s : Nat) (P : (Int × Z × Nat × Nat) ⊕ ((Z × Nat × Nat)) → Prop) : Prop :=
  (1 ≤ c ∧ 7 ≤ s ∧ ∀ a_98, zK z a_98 = 0 → (∀ z_98, z_98 = nZ z a_98 1 0 → (if x1 = 0 then F_X3_noteLine_111 t0 x1 x2 x3 x4 x6 s0 (some t0) (some a_98) (some a_98) 1 z_98 (c - 1) (s - 7) P else F_X3_noteLine_111 t0 x1 x2 x3 x4 x6 s0 (some t0) (some a_98) (some a_98) 2 z_98 (c - 1) (s - 7) P)))
theorem T_X3_noteLine_95  {t0 : Nat} {x1 : Int} {x2 : Option Nat} {x3 : Int} {x4 : Int} {x6 : Int} {s0 : Int} {z : Z} {c : Nat} {s : Nat} {P : (Int × Z × Nat × Nat) ⊕ ((Z × Nat × Nat)) → Prop} {post : Option Sv ⊕ String → Hp → Prop} (r_x1 : R32 x1) (r_x3 : R32 x3) (r_x4 : R32 x4) (r_x6 : R32 x6) (r_s0 : R32 s0) (hw : Wz z)  (hl : ∀ (x3 : Int) (z : Z) (c : Nat) (s : Nat), P (.inl (x3, z, c, s)) → Wz z → R32 x3 → J mX3_noteLine 5 c s post 2 [some (vr (some t0)), some (ii (x1)), some (vr (x2)), some (ii (x3)), none, none, none, none] [] (cz z)) (he0 : ∀ (z : Z) (c : Nat) (s : Nat), P (.inr (z, c, s)) → Wz z → J mX3_noteLine 5 c s post 131 [none, none, none, none, none, none, none, none] [] (cz z)) (H : F_X3_noteLine_95 t0 x1 x2 x3 x4 x6 s0 z c s P) : J mX3_noteLine 5 c s (post) 95 [some (vr (some t0)), some (ii (x1)), some (vr (x2)), some (ii (x3)), some (ii (x4)), none, some (ii (x6)), none] [ii (s0)] (cz z) := by
  unfold F_X3_noteLine_95 at H
  refine j_istore (dk dt_X3_noteLine 56 rfl) (by decide) ?_
  refine j_aload_n (dk dt_X3_noteLine 57 rfl) rfl ?_
  obtain ⟨hc_98, hs_98, H⟩ := H
  refine jz_new (dk dt_X3_noteLine 58 rfl) cl_0 nl_X3_9 iw_0 zw_0 rfl hc_98 hs_98 hw (fun a_98 e_98 w_98 => ?_)
  replace H := H a_98 e_98
  replace H := H _ rfl
  refine j_dup (dk dt_X3_noteLine 59 rfl) rfl ?_
  refine j_iload_n (dk dt_X3_noteLine 60 rfl) rfl ?_
  refine jz_if_ne 110 (dk dt_X3_noteLine 61 rfl) (by decide) r_x1 H (fun H => ?_) (fun H => ?_)
  · refine j_iconst (v := Int32.ofInt 1) (dk dt_X3_noteLine 62 rfl) (by decide) ?_
    refine j_goto 111 (dk dt_X3_noteLine 63 rfl) (by decide) ?_
    exact j_el (T_X3_noteLine_111 r_x1 r_x3 r_x4 r_x6 r_s0 (by decide) w_98  hl he0 H) (And.intro rfl (And.intro rfl (And.intro rfl (And.intro rfl (And.intro rfl (And.intro rfl (And.intro rfl trivial)))))))
  · refine j_iconst (v := Int32.ofInt 2) (dk dt_X3_noteLine 64 rfl) (by decide) ?_
    exact j_el (T_X3_noteLine_111 r_x1 r_x3 r_x4 r_x6 r_s0 (by decide) w_98  hl he0 H) (And.intro rfl (And.intro rfl (And.intro rfl (And.intro rfl (And.intro rfl (And.intro rfl (And.intro rfl trivial)))))))
def F_X3_noteLine_82  (t0 : Nat) (x1 : Int) (x2 : Option Nat) (x3 : Int) (x4 : Int) (s0 : Int) (z : Z) (c : Nat) (s : Nat) (P : (Int × Z × Nat × Nat) ⊕ ((Z × Nat × Nat)) → Prop) : Prop :=
  (if x1 = 0 then F_X3_noteLine_95 t0 x1 x2 x3 x4 s0 0 z c s P else (∃ a_94, x2 = some a_94 ∧ zK z a_94 = 15 ∧ (0 ≤ x3 ∧ x3 < zN z a_94 ∧ F_X3_noteLine_95 t0 x1 x2 x3 x4 s0 (zI z a_94 x3) z c s P)))
theorem T_X3_noteLine_82  {t0 : Nat} {x1 : Int} {x2 : Option Nat} {x3 : Int} {x4 : Int} {s0 : Int} {z : Z} {c : Nat} {s : Nat} {P : (Int × Z × Nat × Nat) ⊕ ((Z × Nat × Nat)) → Prop} {post : Option Sv ⊕ String → Hp → Prop} (r_x1 : R32 x1) (r_x3 : R32 x3) (r_x4 : R32 x4) (r_s0 : R32 s0) (hw : Wz z)  (hl : ∀ (x3 : Int) (z : Z) (c : Nat) (s : Nat), P (.inl (x3, z, c, s)) → Wz z → R32 x3 → J mX3_noteLine 5 c s post 2 [some (vr (some t0)), some (ii (x1)), some (vr (x2)), some (ii (x3)), none, none, none, none] [] (cz z)) (he0 : ∀ (z : Z) (c : Nat) (s : Nat), P (.inr (z, c, s)) → Wz z → J mX3_noteLine 5 c s post 131 [none, none, none, none, none, none, none, none] [] (cz z)) (H : F_X3_noteLine_82 t0 x1 x2 x3 x4 s0 z c s P) : J mX3_noteLine 5 c s (post) 82 [some (vr (some t0)), some (ii (x1)), some (vr (x2)), some (ii (x3)), some (ii (x4)), none, none, none] [ii (s0)] (cz z) := by
  unfold F_X3_noteLine_82 at H
  refine j_istore (dk dt_X3_noteLine 48 rfl) (by decide) ?_
  refine j_iload_n (dk dt_X3_noteLine 49 rfl) rfl ?_
  refine jz_if_ne 92 (dk dt_X3_noteLine 50 rfl) (by decide) r_x1 H (fun H => ?_) (fun H => ?_)
  · refine j_iconst (v := Int32.ofInt 0) (dk dt_X3_noteLine 51 rfl) (by decide) ?_
    refine j_goto 95 (dk dt_X3_noteLine 52 rfl) (by decide) ?_
    exact j_el (T_X3_noteLine_95 r_x1 r_x3 r_x4 r_s0 (by decide) hw  hl he0 H) (And.intro rfl (And.intro rfl (And.intro rfl (And.intro rfl (And.intro rfl (And.intro rfl trivial))))))
  · refine j_aload_n (dk dt_X3_noteLine 53 rfl) rfl ?_
    refine j_iload_n (dk dt_X3_noteLine 54 rfl) rfl ?_
    obtain ⟨a_94, e_94, k_94, H⟩ := H
    obtain ⟨p_94, q_94, H⟩ := H
    refine jz_iald (dk dt_X3_noteLine 55 rfl) e_94 k_94 p_94 q_94 hw ?_
    exact j_el (T_X3_noteLine_95 r_x1 r_x3 r_x4 r_s0 (hw.1 _ _) hw  hl he0 H) (And.intro rfl (And.intro rfl (And.intro rfl (And.intro rfl (And.intro rfl (And.intro rfl trivial))))))
def F_X3_noteLine_48  (t0 : Nat) (x1 : Int) (x2 : Option Nat) (x3 : Int) (x4 : Int) (s0 : Int) (z : Z) (c : Nat) (s : Nat) (P : (Int × Z × Nat × Nat) ⊕ ((Z × Nat × Nat)) → Prop) : Prop :=
  (if x4 = s0 then F_X3_noteLine_125 t0 x1 x2 x3 z c s P else (zK z t0 = 4 ∧ (∃ a_64, x2 = some a_64 ∧ zK z a_64 = 15 ∧ (0 ≤ x3 ∧ x3 < zN z a_64 ∧ (∃ a_65, zO z t0 5 = some a_65 ∧ zK z a_65 = 7 ∧ F_X6_placeOf a_65 x1 (zI z a_64 x3) z (fun x_65 => (if x_65 ≤ 0 then F_X3_noteLine_125 t0 x1 x2 x3 z c s P else (if x1 = 0 then F_X3_noteLine_82 t0 x1 x2 x3 x4 (zI z a_64 x3) z c s P else F_X3_noteLine_82 t0 x1 x2 x3 x4 0 z c s P))))))))
theorem T_X3_noteLine_48  {t0 : Nat} {x1 : Int} {x2 : Option Nat} {x3 : Int} {x4 : Int} {s0 : Int} {z : Z} {c : Nat} {s : Nat} {P : (Int × Z × Nat × Nat) ⊕ ((Z × Nat × Nat)) → Prop} {post : Option Sv ⊕ String → Hp → Prop} (r_x1 : R32 x1) (r_x3 : R32 x3) (r_x4 : R32 x4) (r_s0 : R32 s0) (hw : Wz z)  (hl : ∀ (x3 : Int) (z : Z) (c : Nat) (s : Nat), P (.inl (x3, z, c, s)) → Wz z → R32 x3 → J mX3_noteLine 5 c s post 2 [some (vr (some t0)), some (ii (x1)), some (vr (x2)), some (ii (x3)), none, none, none, none] [] (cz z)) (he0 : ∀ (z : Z) (c : Nat) (s : Nat), P (.inr (z, c, s)) → Wz z → J mX3_noteLine 5 c s post 131 [none, none, none, none, none, none, none, none] [] (cz z)) (H : F_X3_noteLine_48 t0 x1 x2 x3 x4 s0 z c s P) : J mX3_noteLine 5 c s (post) 48 [some (vr (some t0)), some (ii (x1)), some (vr (x2)), some (ii (x3)), some (ii (x4)), none, none, none] [ii (s0)] (cz z) := by
  unfold F_X3_noteLine_48 at H
  refine j_istore (dk dt_X3_noteLine 29 rfl) (by decide) ?_
  refine j_iload (dk dt_X3_noteLine 30 rfl) rfl ?_
  refine j_iload (dk dt_X3_noteLine 31 rfl) rfl ?_
  refine jz_icmp_eq 125 (dk dt_X3_noteLine 32 rfl) (by decide) r_x4 r_s0 H (fun H => ?_) (fun H => ?_)
  · exact j_el (T_X3_noteLine_125 r_x1 r_x3 hw  hl he0 H) (And.intro rfl (And.intro rfl (And.intro rfl (And.intro rfl trivial))))
  · refine j_aload_n (dk dt_X3_noteLine 33 rfl) rfl ?_
    obtain ⟨k_58, H⟩ := H
    refine jz_getO (kz := 5) (dk dt_X3_noteLine 34 rfl) fl_X3_36 rfl rfl rfl k_58 ?_
    refine j_iload_n (dk dt_X3_noteLine 35 rfl) rfl ?_
    refine j_aload_n (dk dt_X3_noteLine 36 rfl) rfl ?_
    refine j_iload_n (dk dt_X3_noteLine 37 rfl) rfl ?_
    obtain ⟨a_64, e_64, k_64, H⟩ := H
    obtain ⟨p_64, q_64, H⟩ := H
    refine jz_iald (dk dt_X3_noteLine 38 rfl) e_64 k_64 p_64 q_64 hw ?_
    obtain ⟨a_65, e_65, k_65, H⟩ := H
    refine jz_callV2 (dk dt_X3_noteLine 39 rfl) vl_X3_80 e_65 (T_X6_placeOf r_x1 (hw.1 _ _) hw H) k_65 rfl (by decide) (Nat.zero_le _) (Nat.zero_le _) (Nat.le_of_ble_eq_true rfl) (fun v_65 h_65 P_65 => ?_)
    obtain ⟨x_65, rfl, r_65, rfl, H⟩ := P_65
    dsimp only [rs]
    refine jz_if_le 125 (dk dt_X3_noteLine 40 rfl) (by decide) r_65 H (fun H => ?_) (fun H => ?_)
    · exact j_el (T_X3_noteLine_125 r_x1 r_x3 hw  hl he0 H) (And.intro rfl (And.intro rfl (And.intro rfl (And.intro rfl trivial))))
    · refine j_iload_n (dk dt_X3_noteLine 41 rfl) rfl ?_
      refine jz_if_ne 81 (dk dt_X3_noteLine 42 rfl) (by decide) r_x1 H (fun H => ?_) (fun H => ?_)
      · refine j_aload_n (dk dt_X3_noteLine 43 rfl) rfl ?_
        refine j_iload_n (dk dt_X3_noteLine 44 rfl) rfl ?_
        refine jz_iald (dk dt_X3_noteLine 45 rfl) e_64 k_64 p_64 q_64 hw ?_
        refine j_goto 82 (dk dt_X3_noteLine 46 rfl) (by decide) ?_
        exact j_el (T_X3_noteLine_82 r_x1 r_x3 r_x4 (hw.1 _ _) hw  hl he0 H) (And.intro rfl (And.intro rfl (And.intro rfl (And.intro rfl (And.intro rfl trivial)))))
      · refine j_iconst (v := Int32.ofInt 0) (dk dt_X3_noteLine 47 rfl) (by decide) ?_
        exact j_el (T_X3_noteLine_82 r_x1 r_x3 r_x4 (by decide) hw  hl he0 H) (And.intro rfl (And.intro rfl (And.intro rfl (And.intro rfl (And.intro rfl trivial)))))
def F_X3_noteLine_27  (t0 : Nat) (x1 : Int) (x2 : Option Nat) (x3 : Int) (s0 : Int) (z : Z) (c : Nat) (s : Nat) (P : (Int × Z × Nat × Nat) ⊕ ((Z × Nat × Nat)) → Prop) : Prop :=
  (zK z t0 = 4 ∧ (∃ a_36, x2 = some a_36 ∧ zK z a_36 = 15 ∧ (0 ≤ x3 ∧ x3 < zN z a_36 ∧ (∃ a_37, zO z t0 4 = some a_37 ∧ zK z a_37 = 7 ∧ F_X6_placeOf a_37 x1 (zI z a_36 x3) z (fun x_37 => (if x_37 ≤ 0 then F_X3_noteLine_48 t0 x1 x2 x3 s0 0 z c s P else F_X3_noteLine_48 t0 x1 x2 x3 s0 1 z c s P))))))
theorem T_X3_noteLine_27  {t0 : Nat} {x1 : Int} {x2 : Option Nat} {x3 : Int} {s0 : Int} {z : Z} {c : Nat} {s : Nat} {P : (Int × Z × Nat × Nat) ⊕ ((Z × Nat × Nat)) → Prop} {post : Option Sv ⊕ String → Hp → Prop} (r_x1 : R32 x1) (r_x3 : R32 x3) (r_s0 : R32 s0) (hw : Wz z)  (hl : ∀ (x3 : Int) (z : Z) (c : Nat) (s : Nat), P (.inl (x3, z, c, s)) → Wz z → R32 x3 → J mX3_noteLine 5 c s post 2 [some (vr (some t0)), some (ii (x1)), some (vr (x2)), some (ii (x3)), none, none, none, none] [] (cz z)) (he0 : ∀ (z : Z) (c : Nat) (s : Nat), P (.inr (z, c, s)) → Wz z → J mX3_noteLine 5 c s post 131 [none, none, none, none, none, none, none, none] [] (cz z)) (H : F_X3_noteLine_27 t0 x1 x2 x3 s0 z c s P) : J mX3_noteLine 5 c s (post) 27 [some (vr (some t0)), some (ii (x1)), some (vr (x2)), some (ii (x3)), none, none, none, none] [ii (s0)] (cz z) := by
  unfold F_X3_noteLine_27 at H
  refine j_istore (dk dt_X3_noteLine 17 rfl) (by decide) ?_
  refine j_aload_n (dk dt_X3_noteLine 18 rfl) rfl ?_
  obtain ⟨k_30, H⟩ := H
  refine jz_getO (kz := 4) (dk dt_X3_noteLine 19 rfl) fl_X3_33 rfl rfl rfl k_30 ?_
  refine j_iload_n (dk dt_X3_noteLine 20 rfl) rfl ?_
  refine j_aload_n (dk dt_X3_noteLine 21 rfl) rfl ?_
  refine j_iload_n (dk dt_X3_noteLine 22 rfl) rfl ?_
  obtain ⟨a_36, e_36, k_36, H⟩ := H
  obtain ⟨p_36, q_36, H⟩ := H
  refine jz_iald (dk dt_X3_noteLine 23 rfl) e_36 k_36 p_36 q_36 hw ?_
  obtain ⟨a_37, e_37, k_37, H⟩ := H
  refine jz_callV2 (dk dt_X3_noteLine 24 rfl) vl_X3_80 e_37 (T_X6_placeOf r_x1 (hw.1 _ _) hw H) k_37 rfl (by decide) (Nat.zero_le _) (Nat.zero_le _) (Nat.le_of_ble_eq_true rfl) (fun v_37 h_37 P_37 => ?_)
  obtain ⟨x_37, rfl, r_37, rfl, H⟩ := P_37
  dsimp only [rs]
  refine jz_if_le 47 (dk dt_X3_noteLine 25 rfl) (by decide) r_37 H (fun H => ?_) (fun H => ?_)
  · refine j_iconst (v := Int32.ofInt 0) (dk dt_X3_noteLine 28 rfl) (by decide) ?_
    exact j_el (T_X3_noteLine_48 r_x1 r_x3 r_s0 (by decide) hw  hl he0 H) (And.intro rfl (And.intro rfl (And.intro rfl (And.intro rfl (And.intro rfl trivial)))))
  · refine j_iconst (v := Int32.ofInt 1) (dk dt_X3_noteLine 26 rfl) (by decide) ?_
    refine j_goto 48 (dk dt_X3_noteLine 27 rfl) (by decide) ?_
    exact j_el (T_X3_noteLine_48 r_x1 r_x3 r_s0 (by decide) hw  hl he0 H) (And.intro rfl (And.intro rfl (And.intro rfl (And.intro rfl (And.intro rfl trivial)))))
def L_X3_noteLine_2  (t0 : Nat) (x1 : Int) (x2 : Option Nat) (x3 : Int) (z : Z) (c : Nat) (s : Nat) (P : (Int × Z × Nat × Nat) ⊕ ((Z × Nat × Nat)) → Prop) : Prop :=
  (∃ a_4, x2 = some a_4 ∧ zK z a_4 = 15 ∧ (if zN z a_4 ≤ x3 then P (.inr (z, c, s)) else (zK z t0 = 4 ∧ (0 ≤ x3 ∧ x3 < zN z a_4 ∧ (∃ a_16, zO z t0 3 = some a_16 ∧ zK z a_16 = 7 ∧ F_X6_placeOf a_16 x1 (zI z a_4 x3) z (fun x_16 => (if x_16 ≤ 0 then F_X3_noteLine_27 t0 x1 x2 x3 0 z c s P else F_X3_noteLine_27 t0 x1 x2 x3 1 z c s P)))))))
theorem U_X3_noteLine_2  {t0 : Nat} {x1 : Int} {x2 : Option Nat} {x3 : Int} {z : Z} {c : Nat} {s : Nat} {P : (Int × Z × Nat × Nat) ⊕ ((Z × Nat × Nat)) → Prop} {post : Option Sv ⊕ String → Hp → Prop} (r_x1 : R32 x1) (r_x3 : R32 x3) (hw : Wz z)  (hl : ∀ (x3 : Int) (z : Z) (c : Nat) (s : Nat), P (.inl (x3, z, c, s)) → Wz z → R32 x3 → J mX3_noteLine 5 c s post 2 [some (vr (some t0)), some (ii (x1)), some (vr (x2)), some (ii (x3)), none, none, none, none] [] (cz z)) (he0 : ∀ (z : Z) (c : Nat) (s : Nat), P (.inr (z, c, s)) → Wz z → J mX3_noteLine 5 c s post 131 [none, none, none, none, none, none, none, none] [] (cz z)) (H : L_X3_noteLine_2 t0 x1 x2 x3 z c s P) : J mX3_noteLine 5 c s post 2 [some (vr (some t0)), some (ii (x1)), some (vr (x2)), some (ii (x3)), none, none, none, none] [] (cz z) := by
  unfold L_X3_noteLine_2 at H
  refine j_iload_n (dk dt_X3_noteLine 2 rfl) rfl ?_
  refine j_aload_n (dk dt_X3_noteLine 3 rfl) rfl ?_
  obtain ⟨a_4, e_4, k_4, H⟩ := H
  refine jz_alen (t := 1) (dk dt_X3_noteLine 4 rfl) e_4 k_4 (by decide) hw ?_
  refine jz_icmp_ge 131 (dk dt_X3_noteLine 5 rfl) (by decide) r_x3 (r32_len hw _) H (fun H => ?_) (fun H => ?_)
  · exact j_el (he0 _ _ _ H hw) trivial
  · refine j_aload_n (dk dt_X3_noteLine 6 rfl) rfl ?_
    obtain ⟨k_9, H⟩ := H
    refine jz_getO (kz := 3) (dk dt_X3_noteLine 7 rfl) fl_X3_29 rfl rfl rfl k_9 ?_
    refine j_iload_n (dk dt_X3_noteLine 8 rfl) rfl ?_
    refine j_aload_n (dk dt_X3_noteLine 9 rfl) rfl ?_
    refine j_iload_n (dk dt_X3_noteLine 10 rfl) rfl ?_
    obtain ⟨p_15, q_15, H⟩ := H
    refine jz_iald (dk dt_X3_noteLine 11 rfl) e_4 k_4 p_15 q_15 hw ?_
    obtain ⟨a_16, e_16, k_16, H⟩ := H
    refine jz_callV2 (dk dt_X3_noteLine 12 rfl) vl_X3_80 e_16 (T_X6_placeOf r_x1 (hw.1 _ _) hw H) k_16 rfl (by decide) (Nat.zero_le _) (Nat.zero_le _) (Nat.le_of_ble_eq_true rfl) (fun v_16 h_16 P_16 => ?_)
    obtain ⟨x_16, rfl, r_16, rfl, H⟩ := P_16
    dsimp only [rs]
    refine jz_if_le 26 (dk dt_X3_noteLine 13 rfl) (by decide) r_16 H (fun H => ?_) (fun H => ?_)
    · refine j_iconst (v := Int32.ofInt 0) (dk dt_X3_noteLine 16 rfl) (by decide) ?_
      exact j_el (T_X3_noteLine_27 r_x1 r_x3 (by decide) hw  hl he0 H) (And.intro rfl (And.intro rfl (And.intro rfl (And.intro rfl trivial))))
    · refine j_iconst (v := Int32.ofInt 1) (dk dt_X3_noteLine 14 rfl) (by decide) ?_
      refine j_goto 27 (dk dt_X3_noteLine 15 rfl) (by decide) ?_
      exact j_el (T_X3_noteLine_27 r_x1 r_x3 (by decide) hw  hl he0 H) (And.intro rfl (And.intro rfl (And.intro rfl (And.intro rfl trivial))))
def F_X3_noteLine_2  (t0 : Nat) (x1 : Int) (x2 : Option Nat) (x3 : Int) (z : Z) (c : Nat) (s : Nat) (P : Z → Prop) : Prop :=
  lp (S := Int × Z × Nat × Nat) (E := (Z × Nat × Nat)) (fun q P_ => L_X3_noteLine_2 t0 x1 x2 q.1 q.2.1 q.2.2.1 q.2.2.2 P_) (x3, z, c, s) (fun e => match e with | (z, c, s) => P z)
theorem T_X3_noteLine_2  {t0 : Nat} {x1 : Int} {x2 : Option Nat} {x3 : Int} {z : Z} {c : Nat} {s : Nat} {P : Z → Prop} (r_x1 : R32 x1) (r_x3 : R32 x3) (hw : Wz z)   (H : F_X3_noteLine_2 t0 x1 x2 x3 z c s P) : J mX3_noteLine 5 c s (nx (QZV P)) 2 [some (vr (some t0)), some (ii (x1)), some (vr (x2)), some (ii (x3)), none, none, none, none] [] (cz z) := by
  unfold F_X3_noteLine_2 at H
  refine lp_J (G := fun q => Wz (q.2.1) → R32 (q.1) → J mX3_noteLine 5 (q.2.2.1) (q.2.2.2) (nx (QZV P)) 2 [some (vr (some t0)), some (ii (x1)), some (vr (x2)), some (ii ((q.1))), none, none, none, none] [] (cz (q.2.1))) (fun q P_ hl_ he_ Hb => ?_) (x3, z, c, s) H hw r_x3
  obtain ⟨x3, z, c, s⟩ := q
  intro hw r_x3
  refine U_X3_noteLine_2 (P := P_) r_x1 r_x3 hw  (fun x3 z c s Hp hw r_x3 => hl_ (x3, z, c, s) Hp hw r_x3) ?_ Hb
  · intro z c s Hp hw
    have H := he_ _ Hp
    exact j_return (dk dt_X3_noteLine 74 rfl) rfl ⟨_, rfl, rfl, hw, H⟩
def F_X3_noteLine  (t0 : Nat) (x1 : Int) (x2 : Option Nat) (z : Z) (c : Nat) (s : Nat) (P : Z → Prop) : Prop :=
  F_X3_noteLine_2 t0 x1 x2 0 z c s P
theorem T_X3_noteLine  {t0 : Nat} {x1 : Int} {x2 : Option Nat} {z : Z} {c : Nat} {s : Nat} {P : Z → Prop} (r_x1 : R32 x1) (hw : Wz z)  (H : F_X3_noteLine t0 x1 x2 z c s P) : Con mX3_noteLine 5 c s [vr (some t0), ii (x1), vr (x2)] (cz z) (QZV P) := by
  refine con_of rfl (Nat.le_of_ble_eq_true rfl) (by decide) ?_
  show J mX3_noteLine 5 c s _ 0 [some (vr (some t0)), some (ii (x1)), some (vr (x2)), none, none, none, none, none] [] (cz z)
  unfold F_X3_noteLine at H
  refine j_iconst (v := Int32.ofInt 0) (dk dt_X3_noteLine 0 rfl) (by decide) ?_
  refine j_istore_n (dk dt_X3_noteLine 1 rfl) (by decide) ?_
  exact j_el (T_X3_noteLine_2 r_x1 (by decide) hw   H) (And.intro rfl (And.intro rfl (And.intro rfl (And.intro rfl trivial))))
def F_X3_join_12  (z : Z) (c : Nat) (s : Nat) (P : Option Nat → Z → Prop) : Prop :=
  P none z
theorem T_X3_join_12  {z : Z} {c : Nat} {s : Nat} {P : Option Nat → Z → Prop}  (hw : Wz z)   (H : F_X3_join_12 z c s P) : J mX3_join 7 c s (nx (QZA P)) 12 [none, none, none, none, none, none, none, none, none] [] (cz z) := by
  unfold F_X3_join_12 at H
  refine j_null (dk dt_X3_join 6 rfl) ?_
  exact j_areturn (dk dt_X3_join 7 rfl) rfl rfl ⟨_, _, rfl, rfl, hw, H⟩
def F_X3_join_73  (z : Z) (c : Nat) (s : Nat) (P : Option Nat → Z → Prop) : Prop :=
  P none z
theorem T_X3_join_73  {z : Z} {c : Nat} {s : Nat} {P : Option Nat → Z → Prop}  (hw : Wz z)   (H : F_X3_join_73 z c s P) : J mX3_join 7 c s (nx (QZA P)) 73 [none, none, none, none, none, none, none, none, none] [] (cz z) := by
  unfold F_X3_join_73 at H
  refine j_null (dk dt_X3_join 41 rfl) ?_
  exact j_areturn (dk dt_X3_join 42 rfl) rfl rfl ⟨_, _, rfl, rfl, hw, H⟩
def L_X3_join_121  (t0 : Nat) (x4 : Option Nat) (x5 : Option Nat) (x6 : Option Nat) (x7 : Int) (x8 : Int) (z : Z) (c : Nat) (s : Nat) (P : (Int × Z × Nat × Nat) ⊕ ((Z × Nat × Nat)) → Prop) : Prop :=
  (∃ a_125, x5 = some a_125 ∧ zK z a_125 = 15 ∧ (if zN z a_125 ≤ x8 then P (.inr (z, c, s)) else (∃ a_144, x4 = some a_144 ∧ zK z a_144 = 15 ∧ (0 ≤ x7 ∧ x7 < zN z a_144 ∧ (0 ≤ x8 ∧ x8 < zN z a_125 ∧ (zK z t0 = 4 ∧ (∃ c_150 s_150, c_150 ≤ c ∧ s_150 ≤ s ∧ F_X3_joinedCell t0 (zI z a_144 x7) (zI z a_125 x8) z c_150 s_150 (fun x_150 z_150 => (∃ a_153, x6 = some a_153 ∧ zK z_150 a_153 = 7 ∧ F_X6_put a_153 (w32 (x7 + 1)) (w32 (x8 + 1)) x_150 z_150 (fun z_153 => P (.inl (w32 (x8 + 1), z_153, c - c_150, s - s_150))))))))))))
theorem U_X3_join_121  {t0 : Nat} {x4 : Option Nat} {x5 : Option Nat} {x6 : Option Nat} {x7 : Int} {x8 : Int} {z : Z} {c : Nat} {s : Nat} {P : (Int × Z × Nat × Nat) ⊕ ((Z × Nat × Nat)) → Prop} {post : Option Sv ⊕ String → Hp → Prop} (r_x7 : R32 x7) (r_x8 : R32 x8) (hw : Wz z)  (hl : ∀ (x8 : Int) (z : Z) (c : Nat) (s : Nat), P (.inl (x8, z, c, s)) → Wz z → R32 x8 → J mX3_join 7 c s post 121 [some (vr (some t0)), none, none, none, some (vr (x4)), some (vr (x5)), some (vr (x6)), some (ii (x7)), some (ii (x8))] [] (cz z)) (he0 : ∀ (z : Z) (c : Nat) (s : Nat), P (.inr (z, c, s)) → Wz z → J mX3_join 7 c s post 162 [some (vr (some t0)), none, none, none, some (vr (x4)), some (vr (x5)), some (vr (x6)), some (ii (x7)), none] [] (cz z)) (H : L_X3_join_121 t0 x4 x5 x6 x7 x8 z c s P) : J mX3_join 7 c s post 121 [some (vr (some t0)), none, none, none, some (vr (x4)), some (vr (x5)), some (vr (x6)), some (ii (x7)), some (ii (x8))] [] (cz z) := by
  unfold L_X3_join_121 at H
  refine j_iload (dk dt_X3_join 68 rfl) rfl ?_
  refine j_aload (dk dt_X3_join 69 rfl) rfl ?_
  obtain ⟨a_125, e_125, k_125, H⟩ := H
  refine jz_alen (t := 1) (dk dt_X3_join 70 rfl) e_125 k_125 (by decide) hw ?_
  refine jz_icmp_ge 162 (dk dt_X3_join 71 rfl) (by decide) r_x8 (r32_len hw _) H (fun H => ?_) (fun H => ?_)
  · exact j_el (he0 _ _ _ H hw) (And.intro rfl (And.intro rfl (And.intro rfl (And.intro rfl (And.intro rfl trivial)))))
  · refine j_aload (dk dt_X3_join 72 rfl) rfl ?_
    refine j_iload (dk dt_X3_join 73 rfl) rfl ?_
    refine j_iconst (v := Int32.ofInt 1) (dk dt_X3_join 74 rfl) (by decide) ?_
    refine jz_iadd (dk dt_X3_join 75 rfl) ?_
    refine j_iload (dk dt_X3_join 76 rfl) rfl ?_
    refine j_iconst (v := Int32.ofInt 1) (dk dt_X3_join 77 rfl) (by decide) ?_
    refine jz_iadd (dk dt_X3_join 78 rfl) ?_
    refine j_aload_n (dk dt_X3_join 79 rfl) rfl ?_
    refine j_aload (dk dt_X3_join 80 rfl) rfl ?_
    refine j_iload (dk dt_X3_join 81 rfl) rfl ?_
    obtain ⟨a_144, e_144, k_144, H⟩ := H
    obtain ⟨p_144, q_144, H⟩ := H
    refine jz_iald (dk dt_X3_join 82 rfl) e_144 k_144 p_144 q_144 hw ?_
    refine j_aload (dk dt_X3_join 83 rfl) rfl ?_
    refine j_iload (dk dt_X3_join 84 rfl) rfl ?_
    obtain ⟨p_149, q_149, H⟩ := H
    refine jz_iald (dk dt_X3_join 85 rfl) e_125 k_125 p_149 q_149 hw ?_
    obtain ⟨k_150, H⟩ := H
    obtain ⟨c_150, s_150, hc_150, hs_150, H⟩ := H
    refine jz_callV2 (dk dt_X3_join 86 rfl) vl_X3_52 rfl (T_X3_joinedCell (hw.1 _ _) (hw.1 _ _) hw H) k_150 rfl (by decide) hc_150 hs_150 (Nat.le_of_ble_eq_true rfl) (fun v_150 h_150 P_150 => ?_)
    obtain ⟨x_150, z_150, rfl, rfl, w_150, H⟩ := P_150
    dsimp only [rs]
    obtain ⟨a_153, e_153, k_153, H⟩ := H
    refine jz_callV3 (dk dt_X3_join 87 rfl) vl_X3_56 e_153 (T_X6_put (r32_w _) (r32_w _) w_150 H) k_153 rfl (by decide) (Nat.zero_le _) (Nat.zero_le _) (Nat.le_of_ble_eq_true rfl) (fun v_153 h_153 P_153 => ?_)
    obtain ⟨z_153, rfl, rfl, w_153, H⟩ := P_153
    dsimp only [rs]
    refine jz_iinc (dk dt_X3_join 88 rfl) rfl ?_
    refine j_goto 121 (dk dt_X3_join 89 rfl) (by decide) ?_
    exact j_el (hl _ _ _ _ H w_153 (r32_w _)) (And.intro rfl (And.intro rfl (And.intro rfl (And.intro rfl (And.intro rfl (And.intro rfl trivial))))))
def F_X3_join_121  (t0 : Nat) (x4 : Option Nat) (x5 : Option Nat) (x6 : Option Nat) (x7 : Int) (x8 : Int) (z : Z) (c : Nat) (s : Nat) (P : (Int × Z × Nat × Nat) ⊕ ((Z × Nat × Nat)) → Prop) : Prop :=
  lp (S := Int × Z × Nat × Nat) (E := (Z × Nat × Nat)) (fun q P_ => L_X3_join_121 t0 x4 x5 x6 x7 q.1 q.2.1 q.2.2.1 q.2.2.2 P_) (x8, z, c, s) (fun e => match e with | (z, c, s) => P (.inl (w32 (x7 + 1), z, c, s)))
theorem T_X3_join_121  {t0 : Nat} {x4 : Option Nat} {x5 : Option Nat} {x6 : Option Nat} {x7 : Int} {x8 : Int} {z : Z} {c : Nat} {s : Nat} {P : (Int × Z × Nat × Nat) ⊕ ((Z × Nat × Nat)) → Prop} {post : Option Sv ⊕ String → Hp → Prop} (r_x7 : R32 x7) (r_x8 : R32 x8) (hw : Wz z)  (hl : ∀ (x7 : Int) (z : Z) (c : Nat) (s : Nat), P (.inl (x7, z, c, s)) → Wz z → R32 x7 → J mX3_join 7 c s post 110 [some (vr (some t0)), none, none, none, some (vr (x4)), some (vr (x5)), some (vr (x6)), some (ii (x7)), none] [] (cz z)) (he0 : ∀ (z : Z) (c : Nat) (s : Nat), P (.inr (z, c, s)) → Wz z → J mX3_join 7 c s post 168 [none, none, none, none, none, none, some (vr (x6)), none, none] [] (cz z)) (H : F_X3_join_121 t0 x4 x5 x6 x7 x8 z c s P) : J mX3_join 7 c s (post) 121 [some (vr (some t0)), none, none, none, some (vr (x4)), some (vr (x5)), some (vr (x6)), some (ii (x7)), some (ii (x8))] [] (cz z) := by
  unfold F_X3_join_121 at H
  refine lp_J (G := fun q => Wz (q.2.1) → R32 (q.1) → J mX3_join 7 (q.2.2.1) (q.2.2.2) (post) 121 [some (vr (some t0)), none, none, none, some (vr (x4)), some (vr (x5)), some (vr (x6)), some (ii (x7)), some (ii ((q.1)))] [] (cz (q.2.1))) (fun q P_ hl_ he_ Hb => ?_) (x8, z, c, s) H hw r_x8
  obtain ⟨x8, z, c, s⟩ := q
  intro hw r_x8
  refine U_X3_join_121 (P := P_) r_x7 r_x8 hw  (fun x8 z c s Hp hw r_x8 => hl_ (x8, z, c, s) Hp hw r_x8) ?_ Hb
  · intro z c s Hp hw
    have H := he_ _ Hp
    refine jz_iinc (dk dt_X3_join 90 rfl) rfl ?_
    refine j_goto 110 (dk dt_X3_join 91 rfl) (by decide) ?_
    exact j_el (hl _ _ _ _ H hw (r32_w _)) (And.intro rfl (And.intro rfl (And.intro rfl (And.intro rfl (And.intro rfl trivial)))))
def L_X3_join_110  (t0 : Nat) (x4 : Option Nat) (x5 : Option Nat) (x6 : Option Nat) (x7 : Int) (z : Z) (c : Nat) (s : Nat) (P : (Int × Z × Nat × Nat) ⊕ ((Z × Nat × Nat)) → Prop) : Prop :=
  (∃ a_114, x4 = some a_114 ∧ zK z a_114 = 15 ∧ (if zN z a_114 ≤ x7 then P (.inr (z, c, s)) else F_X3_join_121 t0 x4 x5 x6 x7 0 z c s P))
theorem U_X3_join_110  {t0 : Nat} {x4 : Option Nat} {x5 : Option Nat} {x6 : Option Nat} {x7 : Int} {z : Z} {c : Nat} {s : Nat} {P : (Int × Z × Nat × Nat) ⊕ ((Z × Nat × Nat)) → Prop} {post : Option Sv ⊕ String → Hp → Prop} (r_x7 : R32 x7) (hw : Wz z)  (hl : ∀ (x7 : Int) (z : Z) (c : Nat) (s : Nat), P (.inl (x7, z, c, s)) → Wz z → R32 x7 → J mX3_join 7 c s post 110 [some (vr (some t0)), none, none, none, some (vr (x4)), some (vr (x5)), some (vr (x6)), some (ii (x7)), none] [] (cz z)) (he0 : ∀ (z : Z) (c : Nat) (s : Nat), P (.inr (z, c, s)) → Wz z → J mX3_join 7 c s post 168 [none, none, none, none, none, none, some (vr (x6)), none, none] [] (cz z)) (H : L_X3_join_110 t0 x4 x5 x6 x7 z c s P) : J mX3_join 7 c s post 110 [some (vr (some t0)), none, none, none, some (vr (x4)), some (vr (x5)), some (vr (x6)), some (ii (x7)), none] [] (cz z) := by
  unfold L_X3_join_110 at H
  refine j_iload (dk dt_X3_join 62 rfl) rfl ?_
  refine j_aload (dk dt_X3_join 63 rfl) rfl ?_
  obtain ⟨a_114, e_114, k_114, H⟩ := H
  refine jz_alen (t := 1) (dk dt_X3_join 64 rfl) e_114 k_114 (by decide) hw ?_
  refine jz_icmp_ge 168 (dk dt_X3_join 65 rfl) (by decide) r_x7 (r32_len hw _) H (fun H => ?_) (fun H => ?_)
  · exact j_el (he0 _ _ _ H hw) (And.intro rfl trivial)
  · refine j_iconst (v := Int32.ofInt 0) (dk dt_X3_join 66 rfl) (by decide) ?_
    refine j_istore (dk dt_X3_join 67 rfl) (by decide) ?_
    exact j_el (T_X3_join_121 r_x7 (by decide) hw  hl he0 H) (And.intro rfl (And.intro rfl (And.intro rfl (And.intro rfl (And.intro rfl (And.intro rfl trivial))))))
def F_X3_join_110  (t0 : Nat) (x4 : Option Nat) (x5 : Option Nat) (x6 : Option Nat) (x7 : Int) (z : Z) (c : Nat) (s : Nat) (P : Option Nat → Z → Prop) : Prop :=
  lp (S := Int × Z × Nat × Nat) (E := (Z × Nat × Nat)) (fun q P_ => L_X3_join_110 t0 x4 x5 x6 q.1 q.2.1 q.2.2.1 q.2.2.2 P_) (x7, z, c, s) (fun e => match e with | (z, c, s) => P x6 z)
theorem T_X3_join_110  {t0 : Nat} {x4 : Option Nat} {x5 : Option Nat} {x6 : Option Nat} {x7 : Int} {z : Z} {c : Nat} {s : Nat} {P : Option Nat → Z → Prop} (r_x7 : R32 x7) (hw : Wz z)   (H : F_X3_join_110 t0 x4 x5 x6 x7 z c s P) : J mX3_join 7 c s (nx (QZA P)) 110 [some (vr (some t0)), none, none, none, some (vr (x4)), some (vr (x5)), some (vr (x6)), some (ii (x7)), none] [] (cz z) := by
  unfold F_X3_join_110 at H
  refine lp_J (G := fun q => Wz (q.2.1) → R32 (q.1) → J mX3_join 7 (q.2.2.1) (q.2.2.2) (nx (QZA P)) 110 [some (vr (some t0)), none, none, none, some (vr (x4)), some (vr (x5)), some (vr (x6)), some (ii ((q.1))), none] [] (cz (q.2.1))) (fun q P_ hl_ he_ Hb => ?_) (x7, z, c, s) H hw r_x7
  obtain ⟨x7, z, c, s⟩ := q
  intro hw r_x7
  refine U_X3_join_110 (P := P_) r_x7 hw  (fun x7 z c s Hp hw r_x7 => hl_ (x7, z, c, s) Hp hw r_x7) ?_ Hb
  · intro z c s Hp hw
    have H := he_ _ Hp
    refine j_aload (dk dt_X3_join 92 rfl) rfl ?_
    exact j_areturn (dk dt_X3_join 93 rfl) rfl rfl ⟨_, _, rfl, rfl, hw, H⟩
def F_X3_join  (t0 : Nat) (x1 : Option Nat) (x2 : Option Nat) (x3 : Option Nat) (z : Z) (c : Nat) (s : Nat) (P : Option Nat → Z → Prop) : Prop :=
  (if x1 = none then F_X3_join_12 z c s P else (if x2 = none then F_X3_join_12 z c s P else (if x3 = none then F_X3_join_12 z c s P else (zK z t0 = 4 ∧ (∀ z_16, z_16 = wO z t0 3 x1 → (∀ z_21, z_21 = wO z_16 t0 4 x2 → (∀ z_26, z_26 = wO z_21 t0 5 x3 → (∃ c_31 s_31, c_31 ≤ c ∧ s_31 ≤ s ∧ F_X3_joinedLine t0 0 z_26 c_31 s_31 (fun x_31 z_31 => (zK z_31 t0 = 4 ∧ (∃ c_38 s_38, c_38 ≤ c - c_31 ∧ s_38 ≤ s - s_31 ∧ F_X3_joinedLine t0 1 z_31 c_38 s_38 (fun x_38 z_38 => (∃ a_45, x_31 = some a_45 ∧ zK z_38 a_45 = 15 ∧ (if zN z_38 a_45 < 1 then F_X3_join_73 z_38 ((c - c_31) - c_38) ((s - s_31) - s_38) P else (if 32 < zN z_38 a_45 then F_X3_join_73 z_38 ((c - c_31) - c_38) ((s - s_31) - s_38) P else (∃ a_60, x_38 = some a_60 ∧ zK z_38 a_60 = 15 ∧ (if zN z_38 a_60 < 1 then F_X3_join_73 z_38 ((c - c_31) - c_38) ((s - s_31) - s_38) P else (if zN z_38 a_60 ≤ 10 then (zK z_38 t0 = 4 ∧ (∀ z_77, z_77 = wI z_38 t0 2 0 → (∃ c_84 s_84, c_84 ≤ (c - c_31) - c_38 ∧ s_84 ≤ (s - s_31) - s_38 ∧ F_X3_noteLine t0 0 x_31 z_77 c_84 s_84 (fun z_84 => (zK z_84 t0 = 4 ∧ (∃ c_91 s_91, c_91 ≤ ((c - c_31) - c_38) - c_84 ∧ s_91 ≤ ((s - s_31) - s_38) - s_84 ∧ F_X3_noteLine t0 1 x_38 z_84 c_91 s_91 (fun z_91 => (1 ≤ (((c - c_31) - c_38) - c_84) - c_91 ∧ 4 ≤ (((s - s_31) - s_38) - s_84) - s_91 ∧ ∀ a_94, zK z_91 a_94 = 0 → (∀ z_94, z_94 = nZ z_91 a_94 7 0 → (∃ c_102 s_102, c_102 ≤ ((((c - c_31) - c_38) - c_84) - c_91) - 1 ∧ s_102 ≤ ((((s - s_31) - s_38) - s_84) - s_91) - 4 ∧ F_X6_init a_94 x_31 x_38 z_94 c_102 s_102 (fun z_102 => F_X3_join_110 t0 x_31 x_38 (some a_94) 0 z_102 ((((((c - c_31) - c_38) - c_84) - c_91) - 1) - c_102) ((((((s - s_31) - s_38) - s_84) - s_91) - 4) - s_102) P))))))))))) else F_X3_join_73 z_38 ((c - c_31) - c_38) ((s - s_31) - s_38) P))))))))))))))))))
theorem T_X3_join  {t0 : Nat} {x1 : Option Nat} {x2 : Option Nat} {x3 : Option Nat} {z : Z} {c : Nat} {s : Nat} {P : Option Nat → Z → Prop}  (hw : Wz z)  (H : F_X3_join t0 x1 x2 x3 z c s P) : Con mX3_join 7 c s [vr (some t0), vr (x1), vr (x2), vr (x3)] (cz z) (QZA P) := by
  refine con_of rfl (Nat.le_of_ble_eq_true rfl) (by decide) ?_
  show J mX3_join 7 c s _ 0 [some (vr (some t0)), some (vr (x1)), some (vr (x2)), some (vr (x3)), none, none, none, none, none] [] (cz z)
  unfold F_X3_join at H
  refine j_aload_n (dk dt_X3_join 0 rfl) rfl ?_
  refine jz_ifnull 12 (dk dt_X3_join 1 rfl) (by decide) H (fun H => ?_) (fun H => ?_)
  · exact j_el (T_X3_join_12  hw   H) trivial
  · refine j_aload_n (dk dt_X3_join 2 rfl) rfl ?_
    refine jz_ifnull 12 (dk dt_X3_join 3 rfl) (by decide) H (fun H => ?_) (fun H => ?_)
    · exact j_el (T_X3_join_12  hw   H) trivial
    · refine j_aload_n (dk dt_X3_join 4 rfl) rfl ?_
      refine jz_ifnonnull 14 (dk dt_X3_join 5 rfl) (by decide) H (fun H => ?_) (fun H => ?_)
      · exact j_el (T_X3_join_12  hw   H) trivial
      · refine j_aload_n (dk dt_X3_join 8 rfl) rfl ?_
        refine j_aload_n (dk dt_X3_join 9 rfl) rfl ?_
        obtain ⟨k_16, H⟩ := H
        refine jz_putO (kz := 3) (dk dt_X3_join 10 rfl) fl_X3_29 rfl rfl rfl k_16 hw (fun w_16 => ?_)
        replace H := H _ rfl
        refine j_aload_n (dk dt_X3_join 11 rfl) rfl ?_
        refine j_aload_n (dk dt_X3_join 12 rfl) rfl ?_
        refine jz_putO (kz := 4) (dk dt_X3_join 13 rfl) fl_X3_33 rfl rfl rfl k_16 w_16 (fun w_21 => ?_)
        replace H := H _ rfl
        refine j_aload_n (dk dt_X3_join 14 rfl) rfl ?_
        refine j_aload_n (dk dt_X3_join 15 rfl) rfl ?_
        refine jz_putO (kz := 5) (dk dt_X3_join 16 rfl) fl_X3_36 rfl rfl rfl k_16 w_21 (fun w_26 => ?_)
        replace H := H _ rfl
        refine j_aload_n (dk dt_X3_join 17 rfl) rfl ?_
        refine j_iconst (v := Int32.ofInt 0) (dk dt_X3_join 18 rfl) (by decide) ?_
        obtain ⟨c_31, s_31, hc_31, hs_31, H⟩ := H
        refine jz_callV1 (dk dt_X3_join 19 rfl) vl_X3_39 rfl (T_X3_joinedLine (by decide) w_26 H) k_16 rfl (by decide) hc_31 hs_31 (Nat.le_of_ble_eq_true rfl) (fun v_31 h_31 P_31 => ?_)
        obtain ⟨x_31, z_31, rfl, rfl, w_31, H⟩ := P_31
        dsimp only [rs]
        refine j_astore (dk dt_X3_join 20 rfl) (by decide) ?_
        refine j_aload_n (dk dt_X3_join 21 rfl) rfl ?_
        refine j_iconst (v := Int32.ofInt 1) (dk dt_X3_join 22 rfl) (by decide) ?_
        obtain ⟨k_38, H⟩ := H
        obtain ⟨c_38, s_38, hc_38, hs_38, H⟩ := H
        refine jz_callV1 (dk dt_X3_join 23 rfl) vl_X3_39 rfl (T_X3_joinedLine (by decide) w_31 H) k_38 rfl (by decide) hc_38 hs_38 (Nat.le_of_ble_eq_true rfl) (fun v_38 h_38 P_38 => ?_)
        obtain ⟨x_38, z_38, rfl, rfl, w_38, H⟩ := P_38
        dsimp only [rs]
        refine j_astore (dk dt_X3_join 24 rfl) (by decide) ?_
        refine j_aload (dk dt_X3_join 25 rfl) rfl ?_
        obtain ⟨a_45, e_45, k_45, H⟩ := H
        refine jz_alen (t := 1) (dk dt_X3_join 26 rfl) e_45 k_45 (by decide) w_38 ?_
        refine j_iconst (v := Int32.ofInt 1) (dk dt_X3_join 27 rfl) (by decide) ?_
        refine jz_icmp_lt 73 (dk dt_X3_join 28 rfl) (by decide) (r32_len w_38 _) (by decide) H (fun H => ?_) (fun H => ?_)
        · exact j_el (T_X3_join_73  w_38   H) trivial
        · refine j_aload (dk dt_X3_join 29 rfl) rfl ?_
          refine jz_alen (t := 1) (dk dt_X3_join 30 rfl) e_45 k_45 (by decide) w_38 ?_
          refine j_bipush (v := Int32.ofInt 32) (dk dt_X3_join 31 rfl) (by decide) ?_
          refine jz_icmp_gt 73 (dk dt_X3_join 32 rfl) (by decide) (r32_len w_38 _) (by decide) H (fun H => ?_) (fun H => ?_)
          · exact j_el (T_X3_join_73  w_38   H) trivial
          · refine j_aload (dk dt_X3_join 33 rfl) rfl ?_
            obtain ⟨a_60, e_60, k_60, H⟩ := H
            refine jz_alen (t := 1) (dk dt_X3_join 34 rfl) e_60 k_60 (by decide) w_38 ?_
            refine j_iconst (v := Int32.ofInt 1) (dk dt_X3_join 35 rfl) (by decide) ?_
            refine jz_icmp_lt 73 (dk dt_X3_join 36 rfl) (by decide) (r32_len w_38 _) (by decide) H (fun H => ?_) (fun H => ?_)
            · exact j_el (T_X3_join_73  w_38   H) trivial
            · refine j_aload (dk dt_X3_join 37 rfl) rfl ?_
              refine jz_alen (t := 1) (dk dt_X3_join 38 rfl) e_60 k_60 (by decide) w_38 ?_
              refine j_bipush (v := Int32.ofInt 10) (dk dt_X3_join 39 rfl) (by decide) ?_
              refine jz_icmp_le 75 (dk dt_X3_join 40 rfl) (by decide) (r32_len w_38 _) (by decide) H (fun H => ?_) (fun H => ?_)
              · refine j_aload_n (dk dt_X3_join 43 rfl) rfl ?_
                refine j_iconst (v := Int32.ofInt 0) (dk dt_X3_join 44 rfl) (by decide) ?_
                obtain ⟨k_77, H⟩ := H
                refine jz_putI (kz := 2) (dk dt_X3_join 45 rfl) fl_X3_21 rfl rfl rfl rfl rfl k_77 w_38 (by decide) (fun w_77 => ?_)
                replace H := H _ rfl
                refine j_aload_n (dk dt_X3_join 46 rfl) rfl ?_
                refine j_iconst (v := Int32.ofInt 0) (dk dt_X3_join 47 rfl) (by decide) ?_
                refine j_aload (dk dt_X3_join 48 rfl) rfl ?_
                obtain ⟨c_84, s_84, hc_84, hs_84, H⟩ := H
                refine jz_callV2 (dk dt_X3_join 49 rfl) vl_X3_43 rfl (T_X3_noteLine (by decide) w_77 H) k_77 rfl (by decide) hc_84 hs_84 (Nat.le_of_ble_eq_true rfl) (fun v_84 h_84 P_84 => ?_)
                obtain ⟨z_84, rfl, rfl, w_84, H⟩ := P_84
                dsimp only [rs]
                refine j_aload_n (dk dt_X3_join 50 rfl) rfl ?_
                refine j_iconst (v := Int32.ofInt 1) (dk dt_X3_join 51 rfl) (by decide) ?_
                refine j_aload (dk dt_X3_join 52 rfl) rfl ?_
                obtain ⟨k_91, H⟩ := H
                obtain ⟨c_91, s_91, hc_91, hs_91, H⟩ := H
                refine jz_callV2 (dk dt_X3_join 53 rfl) vl_X3_43 rfl (T_X3_noteLine (by decide) w_84 H) k_91 rfl (by decide) hc_91 hs_91 (Nat.le_of_ble_eq_true rfl) (fun v_91 h_91 P_91 => ?_)
                obtain ⟨z_91, rfl, rfl, w_91, H⟩ := P_91
                dsimp only [rs]
                obtain ⟨hc_94, hs_94, H⟩ := H
                refine jz_new (dk dt_X3_join 54 rfl) cl_6 nl_X3_47 iw_6 zw_6 rfl hc_94 hs_94 w_91 (fun a_94 e_94 w_94 => ?_)
                replace H := H a_94 e_94
                replace H := H _ rfl
                refine j_dup (dk dt_X3_join 55 rfl) rfl ?_
                refine j_aload (dk dt_X3_join 56 rfl) rfl ?_
                refine j_aload (dk dt_X3_join 57 rfl) rfl ?_
                obtain ⟨c_102, s_102, hc_102, hs_102, H⟩ := H
                refine jz_callI2 (dk dt_X3_join 58 rfl) il_X3_49 rfl (T_X6_init w_94 H) rfl (by decide) hc_102 hs_102 (Nat.le_of_ble_eq_true rfl) (fun v_102 h_102 P_102 => ?_)
                obtain ⟨z_102, rfl, rfl, w_102, H⟩ := P_102
                dsimp only [rs]
                refine j_astore (dk dt_X3_join 59 rfl) (by decide) ?_
                refine j_iconst (v := Int32.ofInt 0) (dk dt_X3_join 60 rfl) (by decide) ?_
                refine j_istore (dk dt_X3_join 61 rfl) (by decide) ?_
                exact j_el (T_X3_join_110 (by decide) w_102   H) (And.intro rfl (And.intro rfl (And.intro rfl (And.intro rfl (And.intro rfl trivial)))))
              · exact j_el (T_X3_join_73  w_38   H) trivial
def F_X11_merge  (t0 : Nat) (x1 : Int) (z : Z) (c : Nat) (s : Nat) (P : Int → Z → Prop) (X : Nat → Z → Prop) : Prop :=
  F_X11_isBranch x1 (fun x_1 => (if x_1 = 0 then (1 ≤ c ∧ 6 ≤ s ∧ X 0 z) else (zK z t0 = 12 ∧ (∃ a_20, zO z t0 8 = some a_20 ∧ zK z a_20 = 15 ∧ (0 ≤ x1 ∧ x1 < zN z a_20 ∧ (if zI z a_20 x1 = (-1) then (1 ≤ c ∧ 6 ≤ s ∧ X 4 z) else (if zI z t0 15 < 200 then F_X11_isBusy t0 z (fun x_54 => (if x_54 = 0 then F_X11_head t0 z (fun x_73 => (∃ a_77, zO z t0 2 = some a_77 ∧ zK z a_77 = 3 ∧ F_X2_commonOf a_77 x_73 (zI z a_20 x1) z (fun x_77 => (if x_77 = zI z a_20 x1 then P (-1) z else F_X2_at a_77 (zI z a_20 x1) z (fun x_101 => F_X2_at a_77 x_77 z (fun x_109 => (∃ a_112, zO z t0 4 = some a_112 ∧ zK z a_112 = 4 ∧ (∃ c_112 s_112, c_112 ≤ c ∧ s_112 ≤ s ∧ F_X3_join a_112 (zO z t0 11) x_101 x_109 z c_112 s_112 (fun x_112 z_112 => (if x_112 = none then (1 ≤ c - c_112 ∧ 6 ≤ s - s_112 ∧ X 3 z_112) else (zK z_112 t0 = 12 ∧ (∀ z_132, z_132 = wI z_112 t0 13 (zI z a_20 x1) → F_X11_showJoined t0 x_112 z_132 (fun z_138 => (zK z_138 t0 = 12 ∧ (∃ a_145, zO z_138 t0 4 = some a_145 ∧ zK z_138 a_145 = 4 ∧ P (zI z_138 a_145 2) z_138))))))))))))))) else (1 ≤ c ∧ 6 ≤ s ∧ X 3 z))) else (1 ≤ c ∧ 6 ≤ s ∧ X 2 z))))))))
theorem T_X11_merge  {t0 : Nat} {x1 : Int} {z : Z} {c : Nat} {s : Nat} {P : Int → Z → Prop} {X : Nat → Z → Prop} (r_x1 : R32 x1) (hw : Wz z)  (H : F_X11_merge t0 x1 z c s P X) : ConX mX11_merge 8 c s [vr (some t0), ii (x1)] (cz z) (QX (QZI P) X) := by
  refine con_ofX rfl (Nat.le_of_ble_eq_true rfl) (by decide) (by decide) ?_
  show J mX11_merge 8 c s _ 0 [some (vr (some t0)), some (ii (x1)), none, none, none] [] (cz z)
  unfold F_X11_merge at H
  refine j_iload_n (dk dt_X11_merge 0 rfl) rfl ?_
  refine j_callS1 (dk dt_X11_merge 1 rfl) sl_X11_253 (T_X11_isBranch r_x1 H) rfl (by decide) (Nat.zero_le _) (Nat.zero_le _) (Nat.le_of_ble_eq_true rfl) (fun v_1 h_1 P_1 => ?_)
  obtain ⟨x_1, rfl, r_1, rfl, H⟩ := P_1
  dsimp only [rs]
  refine jz_if_ne 15 (dk dt_X11_merge 2 rfl) (by decide) r_1 H (fun H => ?_) (fun H => ?_)
  · obtain ⟨hc_, hs_, H⟩ := H
    exact j_throw (E := "java/lang/IndexOutOfBoundsException") ⟨117, 119, by decide, (dk dt_X11_merge 3 rfl), (dk dt_X11_merge 4 rfl), (dk dt_X11_merge 5 rfl), (dk dt_X11_merge 6 rfl)⟩ hc_ hs_ (Nat.le_of_ble_eq_true rfl) ⟨0, _, rfl, rfl, hw, H⟩
  · refine j_aload_n (dk dt_X11_merge 7 rfl) rfl ?_
    obtain ⟨k_16, H⟩ := H
    refine jz_getO (kz := 8) (dk dt_X11_merge 8 rfl) fl_X11_70 rfl rfl rfl k_16 ?_
    refine j_iload_n (dk dt_X11_merge 9 rfl) rfl ?_
    obtain ⟨a_20, e_20, k_20, H⟩ := H
    obtain ⟨p_20, q_20, H⟩ := H
    refine jz_iald (dk dt_X11_merge 10 rfl) e_20 k_20 p_20 q_20 hw ?_
    refine j_istore_n (dk dt_X11_merge 11 rfl) (by decide) ?_
    refine j_iload_n (dk dt_X11_merge 12 rfl) rfl ?_
    refine j_iconst (v := Int32.ofInt (-1)) (dk dt_X11_merge 13 rfl) (by decide) ?_
    refine jz_icmp_ne 35 (dk dt_X11_merge 14 rfl) (by decide) (hw.1 _ _) (by decide) H (fun H => ?_) (fun H => ?_)
    · obtain ⟨hc_, hs_, H⟩ := H
      exact j_throw (E := "java/util/NoSuchElementException") ⟨223, 225, by decide, (dk dt_X11_merge 15 rfl), (dk dt_X11_merge 16 rfl), (dk dt_X11_merge 17 rfl), (dk dt_X11_merge 18 rfl)⟩ hc_ hs_ (Nat.le_of_ble_eq_true rfl) ⟨4, _, rfl, rfl, hw, H⟩
    · refine j_aload_n (dk dt_X11_merge 19 rfl) rfl ?_
      refine jz_getI (kz := 15) (dk dt_X11_merge 20 rfl) fl_X11_272 rfl rfl rfl k_16 ?_
      refine j_sipush (v := Int32.ofInt 200) (dk dt_X11_merge 21 rfl) (by decide) ?_
      refine jz_icmp_lt 53 (dk dt_X11_merge 22 rfl) (by decide) (hw.1 _ _) (by decide) H (fun H => ?_) (fun H => ?_)
      · refine j_aload_n (dk dt_X11_merge 27 rfl) rfl ?_
        refine jz_callV0 (dk dt_X11_merge 28 rfl) vl_X11_256 rfl (T_X11_isBusy hw H) k_16 rfl (by decide) (Nat.zero_le _) (Nat.zero_le _) (Nat.le_of_ble_eq_true rfl) (fun v_54 h_54 P_54 => ?_)
        obtain ⟨x_54, rfl, r_54, rfl, H⟩ := P_54
        dsimp only [rs]
        refine jz_if_eq 68 (dk dt_X11_merge 29 rfl) (by decide) r_54 H (fun H => ?_) (fun H => ?_)
        · refine j_aload_n (dk dt_X11_merge 34 rfl) rfl ?_
          refine jz_getO (kz := 2) (dk dt_X11_merge 35 rfl) fl_X11_26 rfl rfl rfl k_16 ?_
          refine j_aload_n (dk dt_X11_merge 36 rfl) rfl ?_
          refine jz_callV0 (dk dt_X11_merge 37 rfl) vl_X11_249 rfl (T_X11_head hw H) k_16 rfl (by decide) (Nat.zero_le _) (Nat.zero_le _) (Nat.le_of_ble_eq_true rfl) (fun v_73 h_73 P_73 => ?_)
          obtain ⟨x_73, rfl, r_73, rfl, H⟩ := P_73
          dsimp only [rs]
          refine j_iload_n (dk dt_X11_merge 38 rfl) rfl ?_
          obtain ⟨a_77, e_77, k_77, H⟩ := H
          refine jz_callV2 (dk dt_X11_merge 39 rfl) vl_X11_275 e_77 (T_X2_commonOf r_73 (hw.1 _ _) hw H) k_77 rfl (by decide) (Nat.zero_le _) (Nat.zero_le _) (Nat.le_of_ble_eq_true rfl) (fun v_77 h_77 P_77 => ?_)
          obtain ⟨x_77, rfl, r_77, rfl, H⟩ := P_77
          dsimp only [rs]
          refine j_istore_n (dk dt_X11_merge 40 rfl) (by decide) ?_
          refine j_iload_n (dk dt_X11_merge 41 rfl) rfl ?_
          refine j_iload_n (dk dt_X11_merge 42 rfl) rfl ?_
          refine jz_icmp_ne 88 (dk dt_X11_merge 43 rfl) (by decide) r_77 (hw.1 _ _) H (fun H => ?_) (fun H => ?_)
          · refine j_iconst (v := Int32.ofInt (-1)) (dk dt_X11_merge 44 rfl) (by decide) ?_
            exact j_ireturn (dk dt_X11_merge 45 rfl) rfl rfl ⟨_, _, rfl, (by decide), rfl, hw, H⟩
          · refine j_aload_n (dk dt_X11_merge 46 rfl) rfl ?_
            refine jz_getO (kz := 4) (dk dt_X11_merge 47 rfl) fl_X11_46 rfl rfl rfl k_16 ?_
            refine j_aload_n (dk dt_X11_merge 48 rfl) rfl ?_
            refine jz_getO (kz := 11) (dk dt_X11_merge 49 rfl) fl_X11_104 rfl rfl rfl k_16 ?_
            refine j_aload_n (dk dt_X11_merge 50 rfl) rfl ?_
            refine jz_getO (kz := 2) (dk dt_X11_merge 51 rfl) fl_X11_26 rfl rfl rfl k_16 ?_
            refine j_iload_n (dk dt_X11_merge 52 rfl) rfl ?_
            refine jz_callV1 (dk dt_X11_merge 53 rfl) vl_X11_269 e_77 (T_X2_at (hw.1 _ _) hw H) k_77 rfl (by decide) (Nat.zero_le _) (Nat.zero_le _) (Nat.le_of_ble_eq_true rfl) (fun v_101 h_101 P_101 => ?_)
            obtain ⟨x_101, rfl, rfl, H⟩ := P_101
            dsimp only [rs]
            refine j_aload_n (dk dt_X11_merge 54 rfl) rfl ?_
            refine jz_getO (kz := 2) (dk dt_X11_merge 55 rfl) fl_X11_26 rfl rfl rfl k_16 ?_
            refine j_iload_n (dk dt_X11_merge 56 rfl) rfl ?_
            refine jz_callV1 (dk dt_X11_merge 57 rfl) vl_X11_269 e_77 (T_X2_at r_77 hw H) k_77 rfl (by decide) (Nat.zero_le _) (Nat.zero_le _) (Nat.le_of_ble_eq_true rfl) (fun v_109 h_109 P_109 => ?_)
            obtain ⟨x_109, rfl, rfl, H⟩ := P_109
            dsimp only [rs]
            obtain ⟨a_112, e_112, k_112, H⟩ := H
            obtain ⟨c_112, s_112, hc_112, hs_112, H⟩ := H
            refine jz_callV3 (dk dt_X11_merge 58 rfl) vl_X11_278 e_112 (T_X3_join hw H) k_112 rfl (by decide) hc_112 hs_112 (Nat.le_of_ble_eq_true rfl) (fun v_112 h_112 P_112 => ?_)
            obtain ⟨x_112, z_112, rfl, rfl, w_112, H⟩ := P_112
            dsimp only [rs]
            refine j_astore (dk dt_X11_merge 59 rfl) (by decide) ?_
            refine j_aload (dk dt_X11_merge 60 rfl) rfl ?_
            refine jz_ifnonnull 130 (dk dt_X11_merge 61 rfl) (by decide) H (fun H => ?_) (fun H => ?_)
            · obtain ⟨hc_, hs_, H⟩ := H
              exact j_throw (E := "java/lang/IllegalStateException") ⟨167, 169, by decide, (dk dt_X11_merge 62 rfl), (dk dt_X11_merge 63 rfl), (dk dt_X11_merge 64 rfl), (dk dt_X11_merge 65 rfl)⟩ hc_ hs_ (Nat.le_of_ble_eq_true rfl) ⟨3, _, rfl, rfl, w_112, H⟩
            · refine j_aload_n (dk dt_X11_merge 66 rfl) rfl ?_
              refine j_iload_n (dk dt_X11_merge 67 rfl) rfl ?_
              obtain ⟨k_132, H⟩ := H
              refine jz_putI (kz := 13) (dk dt_X11_merge 68 rfl) fl_X11_77 rfl rfl rfl rfl rfl k_132 w_112 (hw.1 _ _) (fun w_132 => ?_)
              replace H := H _ rfl
              refine j_aload_n (dk dt_X11_merge 69 rfl) rfl ?_
              refine j_aload (dk dt_X11_merge 70 rfl) rfl ?_
              refine jz_callV1 (dk dt_X11_merge 71 rfl) vl_X11_282 rfl (T_X11_showJoined w_132 H) k_132 rfl (by decide) (Nat.zero_le _) (Nat.zero_le _) (Nat.le_of_ble_eq_true rfl) (fun v_138 h_138 P_138 => ?_)
              obtain ⟨z_138, rfl, rfl, w_138, H⟩ := P_138
              dsimp only [rs]
              refine j_aload_n (dk dt_X11_merge 72 rfl) rfl ?_
              obtain ⟨k_142, H⟩ := H
              refine jz_getO (kz := 4) (dk dt_X11_merge 73 rfl) fl_X11_46 rfl rfl rfl k_142 ?_
              obtain ⟨a_145, e_145, k_145, H⟩ := H
              refine jz_getI (kz := 2) (dk dt_X11_merge 74 rfl) fl_X11_252 rfl rfl e_145 k_145 ?_
              exact j_ireturn (dk dt_X11_merge 75 rfl) rfl rfl ⟨_, _, rfl, (w_138.1 _ _), rfl, w_138, H⟩
        · obtain ⟨hc_, hs_, H⟩ := H
          exact j_throw (E := "java/lang/IllegalStateException") ⟨167, 169, by decide, (dk dt_X11_merge 30 rfl), (dk dt_X11_merge 31 rfl), (dk dt_X11_merge 32 rfl), (dk dt_X11_merge 33 rfl)⟩ hc_ hs_ (Nat.le_of_ble_eq_true rfl) ⟨3, _, rfl, rfl, hw, H⟩
      · obtain ⟨hc_, hs_, H⟩ := H
        exact j_throw (E := "java/lang/UnsupportedOperationException") ⟨138, 140, by decide, (dk dt_X11_merge 23 rfl), (dk dt_X11_merge 24 rfl), (dk dt_X11_merge 25 rfl), (dk dt_X11_merge 26 rfl)⟩ hc_ hs_ (Nat.le_of_ble_eq_true rfl) ⟨2, _, rfl, rfl, hw, H⟩
def F_X11_move_49  (z : Z) (c : Nat) (s : Nat) (P : Int → Z → Prop) (X : Nat → Z → Prop) : Prop :=
  (1 ≤ c ∧ 6 ≤ s ∧ X 0 z)
theorem T_X11_move_49  {z : Z} {c : Nat} {s : Nat} {P : Int → Z → Prop} {X : Nat → Z → Prop}  (hw : Wz z)   (H : F_X11_move_49 z c s P X) : J mX11_move 6 c s (QX (QZI P) X) 49 [none, none, none, none, none] [] (cz z) := by
  unfold F_X11_move_49 at H
  obtain ⟨hc_, hs_, H⟩ := H
  exact j_throw (E := "java/lang/IndexOutOfBoundsException") ⟨117, 119, by decide, (dk dt_X11_move 26 rfl), (dk dt_X11_move 27 rfl), (dk dt_X11_move 28 rfl), (dk dt_X11_move 29 rfl)⟩ hc_ hs_ (Nat.le_of_ble_eq_true rfl) ⟨0, _, rfl, rfl, hw, H⟩
def F_X11_move_102  (s0 : Int) (z : Z) (c : Nat) (s : Nat) (P : Int → Z → Prop) (X : Nat → Z → Prop) : Prop :=
  P s0 z
theorem T_X11_move_102  {s0 : Int} {z : Z} {c : Nat} {s : Nat} {P : Int → Z → Prop} {X : Nat → Z → Prop} (r_s0 : R32 s0) (hw : Wz z)   (H : F_X11_move_102 s0 z c s P X) : J mX11_move 6 c s (QX (QZI P) X) 102 [none, none, none, none, none] [ii (s0)] (cz z) := by
  unfold F_X11_move_102 at H
  exact j_ireturn (dk dt_X11_move 57 rfl) rfl rfl ⟨_, _, rfl, r_s0, rfl, hw, H⟩
def F_X11_move  (t0 : Nat) (x1 : Int) (x2 : Int) (x3 : Int) (z : Z) (c : Nat) (s : Nat) (P : Int → Z → Prop) (X : Nat → Z → Prop) : Prop :=
  F_X11_isAxis x1 (fun x_1 => (if x_1 = 0 then (1 ≤ c ∧ 6 ≤ s ∧ X 1 z) else (zK z t0 = 12 ∧ (∃ a_20, zO z t0 11 = some a_20 ∧ zK z a_20 = 7 ∧ F_X6_line a_20 x1 z (fun x_20 => (if x2 < 1 then F_X11_move_49 z c s P X else (∃ a_33, x_20 = some a_33 ∧ zK z a_33 = 15 ∧ (if zN z a_33 < x2 then F_X11_move_49 z c s P X else (if x3 < 1 then F_X11_move_49 z c s P X else (if x3 ≤ zN z a_33 then (∃ c_66 s_66, c_66 ≤ c ∧ s_66 ≤ s ∧ F_X11_without x_20 x2 z c_66 s_66 (fun x_66 z_66 => (∃ a_75, x_20 = some a_75 ∧ zK z_66 a_75 = 15 ∧ (0 ≤ w32 (x2 - 1) ∧ w32 (x2 - 1) < zN z_66 a_75 ∧ (∃ c_76 s_76, c_76 ≤ c - c_66 ∧ s_76 ≤ s - s_66 ∧ F_X11_with x_66 x3 (zI z_66 a_75 (w32 (x2 - 1))) z_66 c_76 s_76 (fun x_76 z_76 => (∃ a_79, zO z t0 11 = some a_79 ∧ zK z_76 a_79 = 7 ∧ (∃ c_79 s_79, c_79 ≤ (c - c_66) - c_76 ∧ s_79 ≤ (s - s_66) - s_76 ∧ F_X6_shapedAlong a_79 x1 x_76 z_76 c_79 s_79 (fun x_79 z_79 => (zK z_79 t0 = 12 ∧ F_X11_step t0 x_79 z_79 (fun z_82 => (if x2 = x3 then F_X11_move_102 0 z_82 (((c - c_66) - c_76) - c_79) (((s - s_66) - s_76) - s_79) P X else F_X11_move_102 (w32 ((if 0 ≤ w32 (x2 - x3) then w32 (x2 - x3) else w32 (0 - (w32 (x2 - x3)))) + 1)) z_82 (((c - c_66) - c_76) - c_79) (((s - s_66) - s_76) - s_79) P X)))))))))))) else F_X11_move_49 z c s P X))))))))))
theorem T_X11_move  {t0 : Nat} {x1 : Int} {x2 : Int} {x3 : Int} {z : Z} {c : Nat} {s : Nat} {P : Int → Z → Prop} {X : Nat → Z → Prop} (r_x1 : R32 x1) (r_x2 : R32 x2) (r_x3 : R32 x3) (hw : Wz z)  (H : F_X11_move t0 x1 x2 x3 z c s P X) : ConX mX11_move 6 c s [vr (some t0), ii (x1), ii (x2), ii (x3)] (cz z) (QX (QZI P) X) := by
  refine con_ofX rfl (Nat.le_of_ble_eq_true rfl) (by decide) (by decide) ?_
  show J mX11_move 6 c s _ 0 [some (vr (some t0)), some (ii (x1)), some (ii (x2)), some (ii (x3)), none] [] (cz z)
  unfold F_X11_move at H
  refine j_iload_n (dk dt_X11_move 0 rfl) rfl ?_
  refine j_callS1 (dk dt_X11_move 1 rfl) sl_X11_156 (T_X11_isAxis r_x1 H) rfl (by decide) (Nat.zero_le _) (Nat.zero_le _) (Nat.le_of_ble_eq_true rfl) (fun v_1 h_1 P_1 => ?_)
  obtain ⟨x_1, rfl, r_1, rfl, H⟩ := P_1
  dsimp only [rs]
  refine jz_if_ne 15 (dk dt_X11_move 2 rfl) (by decide) r_1 H (fun H => ?_) (fun H => ?_)
  · obtain ⟨hc_, hs_, H⟩ := H
    exact j_throw (E := "java/lang/IllegalArgumentException") ⟨127, 129, by decide, (dk dt_X11_move 3 rfl), (dk dt_X11_move 4 rfl), (dk dt_X11_move 5 rfl), (dk dt_X11_move 6 rfl)⟩ hc_ hs_ (Nat.le_of_ble_eq_true rfl) ⟨1, _, rfl, rfl, hw, H⟩
  · refine j_aload_n (dk dt_X11_move 7 rfl) rfl ?_
    obtain ⟨k_16, H⟩ := H
    refine jz_getO (kz := 11) (dk dt_X11_move 8 rfl) fl_X11_104 rfl rfl rfl k_16 ?_
    refine j_iload_n (dk dt_X11_move 9 rfl) rfl ?_
    obtain ⟨a_20, e_20, k_20, H⟩ := H
    refine jz_callV1 (dk dt_X11_move 10 rfl) vl_X11_160 e_20 (T_X6_line r_x1 hw H) k_20 rfl (by decide) (Nat.zero_le _) (Nat.zero_le _) (Nat.le_of_ble_eq_true rfl) (fun v_20 h_20 P_20 => ?_)
    obtain ⟨x_20, rfl, rfl, H⟩ := P_20
    dsimp only [rs]
    refine j_astore (dk dt_X11_move 11 rfl) (by decide) ?_
    refine j_iload_n (dk dt_X11_move 12 rfl) rfl ?_
    refine j_iconst (v := Int32.ofInt 1) (dk dt_X11_move 13 rfl) (by decide) ?_
    refine jz_icmp_lt 49 (dk dt_X11_move 14 rfl) (by decide) r_x2 (by decide) H (fun H => ?_) (fun H => ?_)
    · exact j_el (T_X11_move_49  hw   H) trivial
    · refine j_iload_n (dk dt_X11_move 15 rfl) rfl ?_
      refine j_aload (dk dt_X11_move 16 rfl) rfl ?_
      obtain ⟨a_33, e_33, k_33, H⟩ := H
      refine jz_alen (t := 1) (dk dt_X11_move 17 rfl) e_33 k_33 (by decide) hw ?_
      refine jz_icmp_gt 49 (dk dt_X11_move 18 rfl) (by decide) r_x2 (r32_len hw _) H (fun H => ?_) (fun H => ?_)
      · exact j_el (T_X11_move_49  hw   H) trivial
      · refine j_iload_n (dk dt_X11_move 19 rfl) rfl ?_
        refine j_iconst (v := Int32.ofInt 1) (dk dt_X11_move 20 rfl) (by decide) ?_
        refine jz_icmp_lt 49 (dk dt_X11_move 21 rfl) (by decide) r_x3 (by decide) H (fun H => ?_) (fun H => ?_)
        · exact j_el (T_X11_move_49  hw   H) trivial
        · refine j_iload_n (dk dt_X11_move 22 rfl) rfl ?_
          refine j_aload (dk dt_X11_move 23 rfl) rfl ?_
          refine jz_alen (t := 1) (dk dt_X11_move 24 rfl) e_33 k_33 (by decide) hw ?_
          refine jz_icmp_le 57 (dk dt_X11_move 25 rfl) (by decide) r_x3 (r32_len hw _) H (fun H => ?_) (fun H => ?_)
          · refine j_aload_n (dk dt_X11_move 30 rfl) rfl ?_
            refine j_aload_n (dk dt_X11_move 31 rfl) rfl ?_
            refine jz_getO (kz := 11) (dk dt_X11_move 32 rfl) fl_X11_104 rfl rfl rfl k_16 ?_
            refine j_iload_n (dk dt_X11_move 33 rfl) rfl ?_
            refine j_aload (dk dt_X11_move 34 rfl) rfl ?_
            refine j_iload_n (dk dt_X11_move 35 rfl) rfl ?_
            obtain ⟨c_66, s_66, hc_66, hs_66, H⟩ := H
            refine j_callS2 (dk dt_X11_move 36 rfl) sl_X11_181 (T_X11_without r_x2 hw H) rfl (by decide) hc_66 hs_66 (Nat.le_of_ble_eq_true rfl) (fun v_66 h_66 P_66 => ?_)
            obtain ⟨x_66, z_66, rfl, rfl, w_66, H⟩ := P_66
            dsimp only [rs]
            refine j_iload_n (dk dt_X11_move 37 rfl) rfl ?_
            refine j_aload (dk dt_X11_move 38 rfl) rfl ?_
            refine j_iload_n (dk dt_X11_move 39 rfl) rfl ?_
            refine j_iconst (v := Int32.ofInt 1) (dk dt_X11_move 40 rfl) (by decide) ?_
            refine jz_isub (dk dt_X11_move 41 rfl) ?_
            obtain ⟨a_75, e_75, k_75, H⟩ := H
            obtain ⟨p_75, q_75, H⟩ := H
            refine jz_iald (dk dt_X11_move 42 rfl) e_75 k_75 p_75 q_75 w_66 ?_
            obtain ⟨c_76, s_76, hc_76, hs_76, H⟩ := H
            refine j_callS3 (dk dt_X11_move 43 rfl) sl_X11_173 (T_X11_with r_x3 (w_66.1 _ _) w_66 H) rfl (by decide) hc_76 hs_76 (Nat.le_of_ble_eq_true rfl) (fun v_76 h_76 P_76 => ?_)
            obtain ⟨x_76, z_76, rfl, rfl, w_76, H⟩ := P_76
            dsimp only [rs]
            obtain ⟨a_79, e_79, k_79, H⟩ := H
            obtain ⟨c_79, s_79, hc_79, hs_79, H⟩ := H
            refine jz_callV2 (dk dt_X11_move 44 rfl) vl_X11_177 e_79 (T_X6_shapedAlong r_x1 w_76 H) k_79 rfl (by decide) hc_79 hs_79 (Nat.le_of_ble_eq_true rfl) (fun v_79 h_79 P_79 => ?_)
            obtain ⟨x_79, z_79, rfl, rfl, w_79, H⟩ := P_79
            dsimp only [rs]
            obtain ⟨k_82, H⟩ := H
            refine jz_callV1 (dk dt_X11_move 45 rfl) vl_X11_145 rfl (T_X11_step w_79 H) k_82 rfl (by decide) (Nat.zero_le _) (Nat.zero_le _) (Nat.le_of_ble_eq_true rfl) (fun v_82 h_82 P_82 => ?_)
            obtain ⟨z_82, rfl, rfl, w_82, H⟩ := P_82
            dsimp only [rs]
            refine j_iload_n (dk dt_X11_move 46 rfl) rfl ?_
            refine j_iload_n (dk dt_X11_move 47 rfl) rfl ?_
            refine jz_icmp_ne 94 (dk dt_X11_move 48 rfl) (by decide) r_x2 r_x3 H (fun H => ?_) (fun H => ?_)
            · refine j_iconst (v := Int32.ofInt 0) (dk dt_X11_move 49 rfl) (by decide) ?_
              refine j_goto 102 (dk dt_X11_move 50 rfl) (by decide) ?_
              exact j_el (T_X11_move_102 (by decide) w_82   H) trivial
            · refine j_iload_n (dk dt_X11_move 51 rfl) rfl ?_
              refine j_iload_n (dk dt_X11_move 52 rfl) rfl ?_
              refine jz_isub (dk dt_X11_move 53 rfl) ?_
              refine jz_mabs (dk dt_X11_move 54 rfl) sl_X11_185 (by decide) (Nat.le_of_ble_eq_true rfl) (r32_w _) ?_
              refine j_iconst (v := Int32.ofInt 1) (dk dt_X11_move 55 rfl) (by decide) ?_
              refine jz_iadd (dk dt_X11_move 56 rfl) ?_
              exact j_el (T_X11_move_102 (r32_w _) w_82   H) trivial
          · exact j_el (T_X11_move_49  hw   H) trivial
def F_X11_orderOf_38  (s0 : Int) (s1 : Int) (z : Z) (P : Int → Prop) : Prop :=
  P (w32 (s0 - s1))
theorem T_X11_orderOf_38  {s0 : Int} {s1 : Int} {z : Z} {P : Int → Prop} (r_s0 : R32 s0) (r_s1 : R32 s1) (hw : Wz z)   (H : F_X11_orderOf_38 s0 s1 z P) : J mX11_orderOf 2 0 0 (nx (QPI (cz z) P)) 38 [none, none, none, none] [ii (s1), ii (s0)] (cz z) := by
  unfold F_X11_orderOf_38 at H
  refine jz_isub (dk dt_X11_orderOf 18 rfl) ?_
  exact j_ireturn (dk dt_X11_orderOf 19 rfl) rfl rfl ⟨_, rfl, (r32_w _), rfl, H⟩
def F_X11_orderOf_26  (x1 : Option Nat) (s0 : Int) (z : Z) (P : Int → Prop) : Prop :=
  (∃ a_27, x1 = some a_27 ∧ zK z a_27 = 9 ∧ (if zI z a_27 1 = 0 then F_X11_orderOf_38 s0 1 z P else F_X11_orderOf_38 s0 0 z P))
theorem T_X11_orderOf_26  {x1 : Option Nat} {s0 : Int} {z : Z} {P : Int → Prop} (r_s0 : R32 s0) (hw : Wz z)   (H : F_X11_orderOf_26 x1 s0 z P) : J mX11_orderOf 2 0 0 (nx (QPI (cz z) P)) 26 [none, some (vr (x1)), none, none] [ii (s0)] (cz z) := by
  unfold F_X11_orderOf_26 at H
  refine j_aload_n (dk dt_X11_orderOf 12 rfl) rfl ?_
  obtain ⟨a_27, e_27, k_27, H⟩ := H
  refine jz_getI (kz := 1) (dk dt_X11_orderOf 13 rfl) fl_X11_349 rfl rfl e_27 k_27 ?_
  refine jz_if_ne 37 (dk dt_X11_orderOf 14 rfl) (by decide) (hw.1 _ _) H (fun H => ?_) (fun H => ?_)
  · refine j_iconst (v := Int32.ofInt 1) (dk dt_X11_orderOf 15 rfl) (by decide) ?_
    refine j_goto 38 (dk dt_X11_orderOf 16 rfl) (by decide) ?_
    exact j_el (T_X11_orderOf_38 r_s0 (by decide) hw   H) trivial
  · refine j_iconst (v := Int32.ofInt 0) (dk dt_X11_orderOf 17 rfl) (by decide) ?_
    exact j_el (T_X11_orderOf_38 r_s0 (by decide) hw   H) trivial
def F_X11_orderOf_14  (x0 : Option Nat) (x1 : Option Nat) (z : Z) (P : Int → Prop) : Prop :=
  (∃ a_15, x0 = some a_15 ∧ zK z a_15 = 9 ∧ (if zI z a_15 1 = 0 then F_X11_orderOf_26 x1 1 z P else F_X11_orderOf_26 x1 0 z P))
theorem T_X11_orderOf_14  {x0 : Option Nat} {x1 : Option Nat} {z : Z} {P : Int → Prop}  (hw : Wz z)   (H : F_X11_orderOf_14 x0 x1 z P) : J mX11_orderOf 2 0 0 (nx (QPI (cz z) P)) 14 [some (vr (x0)), some (vr (x1)), none, none] [] (cz z) := by
  unfold F_X11_orderOf_14 at H
  refine j_aload_n (dk dt_X11_orderOf 6 rfl) rfl ?_
  obtain ⟨a_15, e_15, k_15, H⟩ := H
  refine jz_getI (kz := 1) (dk dt_X11_orderOf 7 rfl) fl_X11_349 rfl rfl e_15 k_15 ?_
  refine jz_if_ne 25 (dk dt_X11_orderOf 8 rfl) (by decide) (hw.1 _ _) H (fun H => ?_) (fun H => ?_)
  · refine j_iconst (v := Int32.ofInt 1) (dk dt_X11_orderOf 9 rfl) (by decide) ?_
    refine j_goto 26 (dk dt_X11_orderOf 10 rfl) (by decide) ?_
    exact j_el (T_X11_orderOf_26 (by decide) hw   H) (And.intro rfl trivial)
  · refine j_iconst (v := Int32.ofInt 0) (dk dt_X11_orderOf 11 rfl) (by decide) ?_
    exact j_el (T_X11_orderOf_26 (by decide) hw   H) (And.intro rfl trivial)
def F_X11_orderOf_78  (s0 : Int) (z : Z) (P : Int → Prop) : Prop :=
  P s0
theorem T_X11_orderOf_78  {s0 : Int} {z : Z} {P : Int → Prop} (r_s0 : R32 s0) (hw : Wz z)   (H : F_X11_orderOf_78 s0 z P) : J mX11_orderOf 2 0 0 (nx (QPI (cz z) P)) 78 [none, none, none, none] [ii (s0)] (cz z) := by
  unfold F_X11_orderOf_78 at H
  exact j_ireturn (dk dt_X11_orderOf 42 rfl) rfl rfl ⟨_, rfl, r_s0, rfl, H⟩
def F_X11_orderOf_68  (x2 : Int) (x3 : Int) (z : Z) (P : Int → Prop) : Prop :=
  (if x2 = 0 then F_X11_orderOf_78 x3 z P else F_X11_orderOf_78 (w32 (-x3)) z P)
theorem T_X11_orderOf_68  {x2 : Int} {x3 : Int} {z : Z} {P : Int → Prop} (r_x2 : R32 x2) (r_x3 : R32 x3) (hw : Wz z)   (H : F_X11_orderOf_68 x2 x3 z P) : J mX11_orderOf 2 0 0 (nx (QPI (cz z) P)) 68 [none, none, some (ii (x2)), some (ii (x3))] [] (cz z) := by
  unfold F_X11_orderOf_68 at H
  refine j_iload_n (dk dt_X11_orderOf 36 rfl) rfl ?_
  refine jz_if_eq 77 (dk dt_X11_orderOf 37 rfl) (by decide) r_x2 H (fun H => ?_) (fun H => ?_)
  · refine j_iload_n (dk dt_X11_orderOf 41 rfl) rfl ?_
    exact j_el (T_X11_orderOf_78 r_x3 hw   H) trivial
  · refine j_iload_n (dk dt_X11_orderOf 38 rfl) rfl ?_
    refine jz_ineg (dk dt_X11_orderOf 39 rfl) ?_
    refine j_goto 78 (dk dt_X11_orderOf 40 rfl) (by decide) ?_
    exact j_el (T_X11_orderOf_78 (r32_w _) hw   H) trivial
def F_X11_orderOf  (x0 : Option Nat) (x1 : Option Nat) (x2 : Int) (z : Z) (P : Int → Prop) : Prop :=
  (∃ a_1, x0 = some a_1 ∧ zK z a_1 = 9 ∧ (if zI z a_1 1 = 0 then F_X11_orderOf_14 x0 x1 z P else (∃ a_8, x1 = some a_8 ∧ zK z a_8 = 9 ∧ (if zI z a_8 1 = 0 then F_X11_orderOf_14 x0 x1 z P else (if w32 ((zI z a_1 1) - (zI z a_8 1)) = 0 then (if zI z a_1 1 = 4 then F_X11_orderOf_68 x2 (w32 ((zI z a_1 1) - (zI z a_8 1))) z P else F_X8_compared a_1 x1 z (fun x_64 => F_X11_orderOf_68 x2 x_64 z P)) else F_X11_orderOf_68 x2 (w32 ((zI z a_1 1) - (zI z a_8 1))) z P)))))
theorem T_X11_orderOf  {x0 : Option Nat} {x1 : Option Nat} {x2 : Int} {z : Z} {P : Int → Prop} (r_x2 : R32 x2) (hw : Wz z)  (H : F_X11_orderOf x0 x1 x2 z P) : Con mX11_orderOf 2 0 0 [vr (x0), vr (x1), ii (x2)] (cz z) (QPI (cz z) P) := by
  refine con_of rfl (Nat.le_of_ble_eq_true rfl) (by decide) ?_
  show J mX11_orderOf 2 0 0 _ 0 [some (vr (x0)), some (vr (x1)), some (ii (x2)), none] [] (cz z)
  unfold F_X11_orderOf at H
  refine j_aload_n (dk dt_X11_orderOf 0 rfl) rfl ?_
  obtain ⟨a_1, e_1, k_1, H⟩ := H
  refine jz_getI (kz := 1) (dk dt_X11_orderOf 1 rfl) fl_X11_349 rfl rfl e_1 k_1 ?_
  refine jz_if_eq 14 (dk dt_X11_orderOf 2 rfl) (by decide) (hw.1 _ _) H (fun H => ?_) (fun H => ?_)
  · exact j_el (T_X11_orderOf_14  hw   H) (And.intro rfl (And.intro rfl trivial))
  · refine j_aload_n (dk dt_X11_orderOf 3 rfl) rfl ?_
    obtain ⟨a_8, e_8, k_8, H⟩ := H
    refine jz_getI (kz := 1) (dk dt_X11_orderOf 4 rfl) fl_X11_349 rfl rfl e_8 k_8 ?_
    refine jz_if_ne 40 (dk dt_X11_orderOf 5 rfl) (by decide) (hw.1 _ _) H (fun H => ?_) (fun H => ?_)
    · exact j_el (T_X11_orderOf_14  hw   H) (And.intro rfl (And.intro rfl trivial))
    · refine j_aload_n (dk dt_X11_orderOf 20 rfl) rfl ?_
      refine jz_getI (kz := 1) (dk dt_X11_orderOf 21 rfl) fl_X11_349 rfl rfl e_1 k_1 ?_
      refine j_aload_n (dk dt_X11_orderOf 22 rfl) rfl ?_
      refine jz_getI (kz := 1) (dk dt_X11_orderOf 23 rfl) fl_X11_349 rfl rfl e_8 k_8 ?_
      refine jz_isub (dk dt_X11_orderOf 24 rfl) ?_
      refine j_istore_n (dk dt_X11_orderOf 25 rfl) (by decide) ?_
      refine j_iload_n (dk dt_X11_orderOf 26 rfl) rfl ?_
      refine jz_if_ne 68 (dk dt_X11_orderOf 27 rfl) (by decide) (r32_w _) H (fun H => ?_) (fun H => ?_)
      · refine j_aload_n (dk dt_X11_orderOf 28 rfl) rfl ?_
        refine jz_getI (kz := 1) (dk dt_X11_orderOf 29 rfl) fl_X11_349 rfl rfl e_1 k_1 ?_
        refine j_iconst (v := Int32.ofInt 4) (dk dt_X11_orderOf 30 rfl) (by decide) ?_
        refine jz_icmp_eq 68 (dk dt_X11_orderOf 31 rfl) (by decide) (hw.1 _ _) (by decide) H (fun H => ?_) (fun H => ?_)
        · exact j_el (T_X11_orderOf_68 r_x2 (r32_w _) hw   H) (And.intro rfl (And.intro rfl trivial))
        · refine j_aload_n (dk dt_X11_orderOf 32 rfl) rfl ?_
          refine j_aload_n (dk dt_X11_orderOf 33 rfl) rfl ?_
          refine jz_callV1 (dk dt_X11_orderOf 34 rfl) vl_X11_429 e_1 (T_X8_compared hw H) k_1 rfl (by decide) (Nat.zero_le _) (Nat.zero_le _) (Nat.le_of_ble_eq_true rfl) (fun v_64 h_64 P_64 => ?_)
          obtain ⟨x_64, rfl, r_64, rfl, H⟩ := P_64
          dsimp only [rs]
          refine j_istore_n (dk dt_X11_orderOf 35 rfl) (by decide) ?_
          exact j_el (T_X11_orderOf_68 r_x2 r_64 hw   H) (And.intro rfl (And.intro rfl trivial))
      · exact j_el (T_X11_orderOf_68 r_x2 (r32_w _) hw   H) (And.intro rfl (And.intro rfl trivial))
def F_X11_pick_15  (z : Z) (c : Nat) (s : Nat) (P : Int → Z → Prop) (X : Nat → Z → Prop) : Prop :=
  (1 ≤ c ∧ 6 ≤ s ∧ X 4 z)
theorem T_X11_pick_15  {z : Z} {c : Nat} {s : Nat} {P : Int → Z → Prop} {X : Nat → Z → Prop}  (hw : Wz z)   (H : F_X11_pick_15 z c s P X) : J mX11_pick 8 c s (QX (QZI P) X) 15 [none, none, none] [] (cz z) := by
  unfold F_X11_pick_15 at H
  obtain ⟨hc_, hs_, H⟩ := H
  exact j_throw (E := "java/util/NoSuchElementException") ⟨223, 225, by decide, (dk dt_X11_pick 7 rfl), (dk dt_X11_pick 8 rfl), (dk dt_X11_pick 9 rfl), (dk dt_X11_pick 10 rfl)⟩ hc_ hs_ (Nat.le_of_ble_eq_true rfl) ⟨4, _, rfl, rfl, hw, H⟩
def F_X11_pick  (t0 : Nat) (x1 : Int) (z : Z) (c : Nat) (s : Nat) (P : Int → Z → Prop) (X : Nat → Z → Prop) : Prop :=
  (if x1 ≤ 0 then F_X11_pick_15 z c s P X else (zK z t0 = 12 ∧ (∃ a_9, zO z t0 2 = some a_9 ∧ zK z a_9 = 3 ∧ (if x1 < zI z a_9 4 then (if zI z t0 15 < 200 then F_X11_isBusy t0 z (fun x_42 => (if x_42 = 0 then F_X2_at a_9 x1 z (fun x_69 => (∃ a_84, zO z a_9 1 = some a_84 ∧ zK z a_84 = 15 ∧ (0 ≤ x1 ∧ x1 < zN z a_84 ∧ F_X2_at a_9 (zI z a_84 x1) z (fun x_85 => (∃ a_88, zO z t0 4 = some a_88 ∧ zK z a_88 = 4 ∧ (∃ c_88 s_88, c_88 ≤ c ∧ s_88 ≤ s ∧ F_X3_join a_88 (zO z t0 11) x_69 x_85 z c_88 s_88 (fun x_88 z_88 => (if x_88 = none then (1 ≤ c - c_88 ∧ 6 ≤ s - s_88 ∧ X 3 z_88) else (zK z_88 t0 = 12 ∧ F_X11_showJoined t0 x_88 z_88 (fun z_106 => (zK z_106 t0 = 12 ∧ (∃ a_113, zO z_106 t0 4 = some a_113 ∧ zK z_106 a_113 = 4 ∧ P (zI z_106 a_113 2) z_106)))))))))))) else (1 ≤ c ∧ 6 ≤ s ∧ X 3 z))) else (1 ≤ c ∧ 6 ≤ s ∧ X 2 z)) else F_X11_pick_15 z c s P X))))
theorem T_X11_pick  {t0 : Nat} {x1 : Int} {z : Z} {c : Nat} {s : Nat} {P : Int → Z → Prop} {X : Nat → Z → Prop} (r_x1 : R32 x1) (hw : Wz z)  (H : F_X11_pick t0 x1 z c s P X) : ConX mX11_pick 8 c s [vr (some t0), ii (x1)] (cz z) (QX (QZI P) X) := by
  refine con_ofX rfl (Nat.le_of_ble_eq_true rfl) (by decide) (by decide) ?_
  show J mX11_pick 8 c s _ 0 [some (vr (some t0)), some (ii (x1)), none] [] (cz z)
  unfold F_X11_pick at H
  refine j_iload_n (dk dt_X11_pick 0 rfl) rfl ?_
  refine jz_if_le 15 (dk dt_X11_pick 1 rfl) (by decide) r_x1 H (fun H => ?_) (fun H => ?_)
  · exact j_el (T_X11_pick_15  hw   H) trivial
  · refine j_iload_n (dk dt_X11_pick 2 rfl) rfl ?_
    refine j_aload_n (dk dt_X11_pick 3 rfl) rfl ?_
    obtain ⟨k_6, H⟩ := H
    refine jz_getO (kz := 2) (dk dt_X11_pick 4 rfl) fl_X11_26 rfl rfl rfl k_6 ?_
    obtain ⟨a_9, e_9, k_9, H⟩ := H
    refine jz_getI (kz := 4) (dk dt_X11_pick 5 rfl) fl_X11_243 rfl rfl e_9 k_9 ?_
    refine jz_icmp_lt 23 (dk dt_X11_pick 6 rfl) (by decide) r_x1 (hw.1 _ _) H (fun H => ?_) (fun H => ?_)
    · refine j_aload_n (dk dt_X11_pick 11 rfl) rfl ?_
      refine jz_getI (kz := 15) (dk dt_X11_pick 12 rfl) fl_X11_272 rfl rfl rfl k_6 ?_
      refine j_sipush (v := Int32.ofInt 200) (dk dt_X11_pick 13 rfl) (by decide) ?_
      refine jz_icmp_lt 41 (dk dt_X11_pick 14 rfl) (by decide) (hw.1 _ _) (by decide) H (fun H => ?_) (fun H => ?_)
      · refine j_aload_n (dk dt_X11_pick 19 rfl) rfl ?_
        refine jz_callV0 (dk dt_X11_pick 20 rfl) vl_X11_256 rfl (T_X11_isBusy hw H) k_6 rfl (by decide) (Nat.zero_le _) (Nat.zero_le _) (Nat.le_of_ble_eq_true rfl) (fun v_42 h_42 P_42 => ?_)
        obtain ⟨x_42, rfl, r_42, rfl, H⟩ := P_42
        dsimp only [rs]
        refine jz_if_eq 56 (dk dt_X11_pick 21 rfl) (by decide) r_42 H (fun H => ?_) (fun H => ?_)
        · refine j_aload_n (dk dt_X11_pick 26 rfl) rfl ?_
          refine jz_getO (kz := 4) (dk dt_X11_pick 27 rfl) fl_X11_46 rfl rfl rfl k_6 ?_
          refine j_aload_n (dk dt_X11_pick 28 rfl) rfl ?_
          refine jz_getO (kz := 11) (dk dt_X11_pick 29 rfl) fl_X11_104 rfl rfl rfl k_6 ?_
          refine j_aload_n (dk dt_X11_pick 30 rfl) rfl ?_
          refine jz_getO (kz := 2) (dk dt_X11_pick 31 rfl) fl_X11_26 rfl rfl rfl k_6 ?_
          refine j_iload_n (dk dt_X11_pick 32 rfl) rfl ?_
          refine jz_callV1 (dk dt_X11_pick 33 rfl) vl_X11_269 e_9 (T_X2_at r_x1 hw H) k_9 rfl (by decide) (Nat.zero_le _) (Nat.zero_le _) (Nat.le_of_ble_eq_true rfl) (fun v_69 h_69 P_69 => ?_)
          obtain ⟨x_69, rfl, rfl, H⟩ := P_69
          dsimp only [rs]
          refine j_aload_n (dk dt_X11_pick 34 rfl) rfl ?_
          refine jz_getO (kz := 2) (dk dt_X11_pick 35 rfl) fl_X11_26 rfl rfl rfl k_6 ?_
          refine j_aload_n (dk dt_X11_pick 36 rfl) rfl ?_
          refine jz_getO (kz := 2) (dk dt_X11_pick 37 rfl) fl_X11_26 rfl rfl rfl k_6 ?_
          refine jz_getO (kz := 1) (dk dt_X11_pick 38 rfl) fl_X11_285 rfl rfl e_9 k_9 ?_
          refine j_iload_n (dk dt_X11_pick 39 rfl) rfl ?_
          obtain ⟨a_84, e_84, k_84, H⟩ := H
          obtain ⟨p_84, q_84, H⟩ := H
          refine jz_iald (dk dt_X11_pick 40 rfl) e_84 k_84 p_84 q_84 hw ?_
          refine jz_callV1 (dk dt_X11_pick 41 rfl) vl_X11_269 e_9 (T_X2_at (hw.1 _ _) hw H) k_9 rfl (by decide) (Nat.zero_le _) (Nat.zero_le _) (Nat.le_of_ble_eq_true rfl) (fun v_85 h_85 P_85 => ?_)
          obtain ⟨x_85, rfl, rfl, H⟩ := P_85
          dsimp only [rs]
          obtain ⟨a_88, e_88, k_88, H⟩ := H
          obtain ⟨c_88, s_88, hc_88, hs_88, H⟩ := H
          refine jz_callV3 (dk dt_X11_pick 42 rfl) vl_X11_278 e_88 (T_X3_join hw H) k_88 rfl (by decide) hc_88 hs_88 (Nat.le_of_ble_eq_true rfl) (fun v_88 h_88 P_88 => ?_)
          obtain ⟨x_88, z_88, rfl, rfl, w_88, H⟩ := P_88
          dsimp only [rs]
          refine j_astore_n (dk dt_X11_pick 43 rfl) (by decide) ?_
          refine j_aload_n (dk dt_X11_pick 44 rfl) rfl ?_
          refine jz_ifnonnull 104 (dk dt_X11_pick 45 rfl) (by decide) H (fun H => ?_) (fun H => ?_)
          · obtain ⟨hc_, hs_, H⟩ := H
            exact j_throw (E := "java/lang/IllegalStateException") ⟨167, 169, by decide, (dk dt_X11_pick 46 rfl), (dk dt_X11_pick 47 rfl), (dk dt_X11_pick 48 rfl), (dk dt_X11_pick 49 rfl)⟩ hc_ hs_ (Nat.le_of_ble_eq_true rfl) ⟨3, _, rfl, rfl, w_88, H⟩
          · refine j_aload_n (dk dt_X11_pick 50 rfl) rfl ?_
            refine j_aload_n (dk dt_X11_pick 51 rfl) rfl ?_
            obtain ⟨k_106, H⟩ := H
            refine jz_callV1 (dk dt_X11_pick 52 rfl) vl_X11_282 rfl (T_X11_showJoined w_88 H) k_106 rfl (by decide) (Nat.zero_le _) (Nat.zero_le _) (Nat.le_of_ble_eq_true rfl) (fun v_106 h_106 P_106 => ?_)
            obtain ⟨z_106, rfl, rfl, w_106, H⟩ := P_106
            dsimp only [rs]
            refine j_aload_n (dk dt_X11_pick 53 rfl) rfl ?_
            obtain ⟨k_110, H⟩ := H
            refine jz_getO (kz := 4) (dk dt_X11_pick 54 rfl) fl_X11_46 rfl rfl rfl k_110 ?_
            obtain ⟨a_113, e_113, k_113, H⟩ := H
            refine jz_getI (kz := 2) (dk dt_X11_pick 55 rfl) fl_X11_252 rfl rfl e_113 k_113 ?_
            exact j_ireturn (dk dt_X11_pick 56 rfl) rfl rfl ⟨_, _, rfl, (w_106.1 _ _), rfl, w_106, H⟩
        · obtain ⟨hc_, hs_, H⟩ := H
          exact j_throw (E := "java/lang/IllegalStateException") ⟨167, 169, by decide, (dk dt_X11_pick 22 rfl), (dk dt_X11_pick 23 rfl), (dk dt_X11_pick 24 rfl), (dk dt_X11_pick 25 rfl)⟩ hc_ hs_ (Nat.le_of_ble_eq_true rfl) ⟨3, _, rfl, rfl, hw, H⟩
      · obtain ⟨hc_, hs_, H⟩ := H
        exact j_throw (E := "java/lang/UnsupportedOperationException") ⟨138, 140, by decide, (dk dt_X11_pick 15 rfl), (dk dt_X11_pick 16 rfl), (dk dt_X11_pick 17 rfl), (dk dt_X11_pick 18 rfl)⟩ hc_ hs_ (Nat.le_of_ble_eq_true rfl) ⟨2, _, rfl, rfl, hw, H⟩
    · exact j_el (T_X11_pick_15  hw   H) trivial
def L_X11_placesInOrder_40  (t0 : Nat) (x1 : Int) (x2 : Int) (x4 : Int) (x5 : Option Nat) (x6 : Int) (x7 : Option Nat) (x8 : Int) (z : Z) (c : Nat) (s : Nat) (P : (Int × Z) ⊕ ((Int × Z)) → Prop) : Prop :=
  (if x8 ≤ 0 then P (.inr (x8, z)) else (∃ a_53, x5 = some a_53 ∧ zK z a_53 = 15 ∧ (0 ≤ w32 (x8 - 1) ∧ w32 (x8 - 1) < zN z a_53 ∧ (zK z t0 = 12 ∧ F_X11_seen t0 (-1) (zI z a_53 (w32 (x8 - 1))) x1 z (fun x_55 => F_X11_orderOf x_55 x7 x4 z (fun x_62 => (if x_62 ≤ 0 then P (.inr (x8, z)) else (0 ≤ x8 ∧ x8 < zN z a_53 ∧ (∀ z_79, z_79 = wI z a_53 x8 (zI z a_53 (w32 (x8 - 1))) → P (.inl (w32 (x8 + (-1)), z_79)))))))))))
theorem U_X11_placesInOrder_40  {t0 : Nat} {x1 : Int} {x2 : Int} {x4 : Int} {x5 : Option Nat} {x6 : Int} {x7 : Option Nat} {x8 : Int} {z : Z} {c : Nat} {s : Nat} {P : (Int × Z) ⊕ ((Int × Z)) → Prop} {post : Option Sv ⊕ String → Hp → Prop} (r_x1 : R32 x1) (r_x2 : R32 x2) (r_x4 : R32 x4) (r_x6 : R32 x6) (r_x8 : R32 x8) (hw : Wz z)  (hl : ∀ (x8 : Int) (z : Z), P (.inl (x8, z)) → Wz z → R32 x8 → J mX11_placesInOrder 4 c s post 40 [some (vr (some t0)), some (ii (x1)), some (ii (x2)), none, some (ii (x4)), some (vr (x5)), some (ii (x6)), some (vr (x7)), some (ii (x8))] [] (cz z)) (he0 : ∀ (x8 : Int) (z : Z), P (.inr (x8, z)) → Wz z → R32 x8 → J mX11_placesInOrder 4 c s post 86 [some (vr (some t0)), some (ii (x1)), some (ii (x2)), none, some (ii (x4)), some (vr (x5)), some (ii (x6)), none, some (ii (x8))] [] (cz z)) (H : L_X11_placesInOrder_40 t0 x1 x2 x4 x5 x6 x7 x8 z c s P) : J mX11_placesInOrder 4 c s post 40 [some (vr (some t0)), some (ii (x1)), some (ii (x2)), none, some (ii (x4)), some (vr (x5)), some (ii (x6)), some (vr (x7)), some (ii (x8))] [] (cz z) := by
  unfold L_X11_placesInOrder_40 at H
  refine j_iload (dk dt_X11_placesInOrder 25 rfl) rfl ?_
  refine jz_if_le 86 (dk dt_X11_placesInOrder 26 rfl) (by decide) r_x8 H (fun H => ?_) (fun H => ?_)
  · exact j_el (he0 _ _ H hw r_x8) (And.intro rfl (And.intro rfl (And.intro rfl (And.intro rfl (And.intro rfl (And.intro rfl (And.intro rfl trivial)))))))
  · refine j_aload_n (dk dt_X11_placesInOrder 27 rfl) rfl ?_
    refine j_iconst (v := Int32.ofInt (-1)) (dk dt_X11_placesInOrder 28 rfl) (by decide) ?_
    refine j_aload (dk dt_X11_placesInOrder 29 rfl) rfl ?_
    refine j_iload (dk dt_X11_placesInOrder 30 rfl) rfl ?_
    refine j_iconst (v := Int32.ofInt 1) (dk dt_X11_placesInOrder 31 rfl) (by decide) ?_
    refine jz_isub (dk dt_X11_placesInOrder 32 rfl) ?_
    obtain ⟨a_53, e_53, k_53, H⟩ := H
    obtain ⟨p_53, q_53, H⟩ := H
    refine jz_iald (dk dt_X11_placesInOrder 33 rfl) e_53 k_53 p_53 q_53 hw ?_
    refine j_iload_n (dk dt_X11_placesInOrder 34 rfl) rfl ?_
    obtain ⟨k_55, H⟩ := H
    refine jz_callV3 (dk dt_X11_placesInOrder 35 rfl) vl_X11_345 rfl (T_X11_seen (by decide) (hw.1 _ _) r_x1 hw H) k_55 rfl (by decide) (Nat.zero_le _) (Nat.zero_le _) (Nat.le_of_ble_eq_true rfl) (fun v_55 h_55 P_55 => ?_)
    obtain ⟨x_55, rfl, rfl, H⟩ := P_55
    dsimp only [rs]
    refine j_aload (dk dt_X11_placesInOrder 36 rfl) rfl ?_
    refine j_iload (dk dt_X11_placesInOrder 37 rfl) rfl ?_
    refine j_callS3 (dk dt_X11_placesInOrder 38 rfl) sl_X11_425 (T_X11_orderOf r_x4 hw H) rfl (by decide) (Nat.zero_le _) (Nat.zero_le _) (Nat.le_of_ble_eq_true rfl) (fun v_62 h_62 P_62 => ?_)
    obtain ⟨x_62, rfl, r_62, rfl, H⟩ := P_62
    dsimp only [rs]
    refine jz_if_le 86 (dk dt_X11_placesInOrder 39 rfl) (by decide) r_62 H (fun H => ?_) (fun H => ?_)
    · exact j_el (he0 _ _ H hw r_x8) (And.intro rfl (And.intro rfl (And.intro rfl (And.intro rfl (And.intro rfl (And.intro rfl (And.intro rfl trivial)))))))
    · refine j_aload (dk dt_X11_placesInOrder 40 rfl) rfl ?_
      refine j_iload (dk dt_X11_placesInOrder 41 rfl) rfl ?_
      refine j_aload (dk dt_X11_placesInOrder 42 rfl) rfl ?_
      refine j_iload (dk dt_X11_placesInOrder 43 rfl) rfl ?_
      refine j_iconst (v := Int32.ofInt 1) (dk dt_X11_placesInOrder 44 rfl) (by decide) ?_
      refine jz_isub (dk dt_X11_placesInOrder 45 rfl) ?_
      refine jz_iald (dk dt_X11_placesInOrder 46 rfl) e_53 k_53 p_53 q_53 hw ?_
      obtain ⟨p_79, q_79, H⟩ := H
      refine jz_iast (dk dt_X11_placesInOrder 47 rfl) e_53 k_53 p_79 q_79 hw (hw.1 _ _) (fun w_79 => ?_)
      replace H := H _ rfl
      refine jz_iinc (dk dt_X11_placesInOrder 48 rfl) rfl ?_
      refine j_goto 40 (dk dt_X11_placesInOrder 49 rfl) (by decide) ?_
      exact j_el (hl _ _ H w_79 (r32_w _)) (And.intro rfl (And.intro rfl (And.intro rfl (And.intro rfl (And.intro rfl (And.intro rfl (And.intro rfl (And.intro rfl trivial))))))))
def F_X11_placesInOrder_86  (t0 : Nat) (x1 : Int) (x2 : Int) (x4 : Int) (x5 : Option Nat) (x6 : Int) (x8 : Int) (z : Z) (c : Nat) (s : Nat) (P : (Int × Z) ⊕ ((Z)) → Prop) : Prop :=
  (∃ a_94, x5 = some a_94 ∧ zK z a_94 = 15 ∧ (0 ≤ x8 ∧ x8 < zN z a_94 ∧ (∀ z_94, z_94 = wI z a_94 x8 (w32 (x2 + x6)) → P (.inl (w32 (x6 + 1), z_94)))))
theorem T_X11_placesInOrder_86  {t0 : Nat} {x1 : Int} {x2 : Int} {x4 : Int} {x5 : Option Nat} {x6 : Int} {x8 : Int} {z : Z} {c : Nat} {s : Nat} {P : (Int × Z) ⊕ ((Z)) → Prop} {post : Option Sv ⊕ String → Hp → Prop} (r_x1 : R32 x1) (r_x2 : R32 x2) (r_x4 : R32 x4) (r_x6 : R32 x6) (r_x8 : R32 x8) (hw : Wz z)  (hl : ∀ (x6 : Int) (z : Z), P (.inl (x6, z)) → Wz z → R32 x6 → J mX11_placesInOrder 4 c s post 16 [some (vr (some t0)), some (ii (x1)), some (ii (x2)), none, some (ii (x4)), some (vr (x5)), some (ii (x6)), none, none] [] (cz z)) (he0 : ∀ (z : Z), P (.inr z) → Wz z → J mX11_placesInOrder 4 c s post 101 [none, none, none, none, none, some (vr (x5)), none, none, none] [] (cz z)) (H : F_X11_placesInOrder_86 t0 x1 x2 x4 x5 x6 x8 z c s P) : J mX11_placesInOrder 4 c s (post) 86 [some (vr (some t0)), some (ii (x1)), some (ii (x2)), none, some (ii (x4)), some (vr (x5)), some (ii (x6)), none, some (ii (x8))] [] (cz z) := by
  unfold F_X11_placesInOrder_86 at H
  refine j_aload (dk dt_X11_placesInOrder 50 rfl) rfl ?_
  refine j_iload (dk dt_X11_placesInOrder 51 rfl) rfl ?_
  refine j_iload_n (dk dt_X11_placesInOrder 52 rfl) rfl ?_
  refine j_iload (dk dt_X11_placesInOrder 53 rfl) rfl ?_
  refine jz_iadd (dk dt_X11_placesInOrder 54 rfl) ?_
  obtain ⟨a_94, e_94, k_94, H⟩ := H
  obtain ⟨p_94, q_94, H⟩ := H
  refine jz_iast (dk dt_X11_placesInOrder 55 rfl) e_94 k_94 p_94 q_94 hw (r32_w _) (fun w_94 => ?_)
  replace H := H _ rfl
  refine jz_iinc (dk dt_X11_placesInOrder 56 rfl) rfl ?_
  refine j_goto 16 (dk dt_X11_placesInOrder 57 rfl) (by decide) ?_
  exact j_el (hl _ _ H w_94 (r32_w _)) (And.intro rfl (And.intro rfl (And.intro rfl (And.intro rfl (And.intro rfl (And.intro rfl trivial))))))
def F_X11_placesInOrder_40  (t0 : Nat) (x1 : Int) (x2 : Int) (x4 : Int) (x5 : Option Nat) (x6 : Int) (x7 : Option Nat) (x8 : Int) (z : Z) (c : Nat) (s : Nat) (P : (Int × Z) ⊕ ((Z)) → Prop) : Prop :=
  lp (S := Int × Z) (E := (Int × Z)) (fun q P_ => L_X11_placesInOrder_40 t0 x1 x2 x4 x5 x6 x7 q.1 q.2 c s P_) (x8, z) (fun e => match e with | (x8, z) => F_X11_placesInOrder_86 t0 x1 x2 x4 x5 x6 x8 z c s P)
theorem T_X11_placesInOrder_40  {t0 : Nat} {x1 : Int} {x2 : Int} {x4 : Int} {x5 : Option Nat} {x6 : Int} {x7 : Option Nat} {x8 : Int} {z : Z} {c : Nat} {s : Nat} {P : (Int × Z) ⊕ ((Z)) → Prop} {post : Option Sv ⊕ String → Hp → Prop} (r_x1 : R32 x1) (r_x2 : R32 x2) (r_x4 : R32 x4) (r_x6 : R32 x6) (r_x8 : R32 x8) (hw : Wz z)  (hl : ∀ (x6 : Int) (z : Z), P (.inl (x6, z)) → Wz z → R32 x6 → J mX11_placesInOrder 4 c s post 16 [some (vr (some t0)), some (ii (x1)), some (ii (x2)), none, some (ii (x4)), some (vr (x5)), some (ii (x6)), none, none] [] (cz z)) (he0 : ∀ (z : Z), P (.inr z) → Wz z → J mX11_placesInOrder 4 c s post 101 [none, none, none, none, none, some (vr (x5)), none, none, none] [] (cz z)) (H : F_X11_placesInOrder_40 t0 x1 x2 x4 x5 x6 x7 x8 z c s P) : J mX11_placesInOrder 4 c s (post) 40 [some (vr (some t0)), some (ii (x1)), some (ii (x2)), none, some (ii (x4)), some (vr (x5)), some (ii (x6)), some (vr (x7)), some (ii (x8))] [] (cz z) := by
  unfold F_X11_placesInOrder_40 at H
  refine lp_J (G := fun q => Wz (q.2) → R32 (q.1) → J mX11_placesInOrder 4 c s (post) 40 [some (vr (some t0)), some (ii (x1)), some (ii (x2)), none, some (ii (x4)), some (vr (x5)), some (ii (x6)), some (vr (x7)), some (ii ((q.1)))] [] (cz (q.2))) (fun q P_ hl_ he_ Hb => ?_) (x8, z) H hw r_x8
  obtain ⟨x8, z⟩ := q
  intro hw r_x8
  refine U_X11_placesInOrder_40 (P := P_) r_x1 r_x2 r_x4 r_x6 r_x8 hw  (fun x8 z Hp hw r_x8 => hl_ (x8, z) Hp hw r_x8) ?_ Hb
  · intro x8 z Hp hw r_x8
    have H := he_ _ Hp
    exact j_el (T_X11_placesInOrder_86 r_x1 r_x2 r_x4 r_x6 r_x8 hw  hl he0 H) (And.intro rfl (And.intro rfl (And.intro rfl (And.intro rfl (And.intro rfl (And.intro rfl (And.intro rfl trivial)))))))
def L_X11_placesInOrder_16  (t0 : Nat) (x1 : Int) (x2 : Int) (x4 : Int) (x5 : Option Nat) (x6 : Int) (z : Z) (c : Nat) (s : Nat) (P : (Int × Z) ⊕ ((Z)) → Prop) : Prop :=
  (∃ a_20, x5 = some a_20 ∧ zK z a_20 = 15 ∧ (if zN z a_20 ≤ x6 then P (.inr z) else (zK z t0 = 12 ∧ F_X11_seen t0 (-1) (w32 (x2 + x6)) x1 z (fun x_31 => F_X11_placesInOrder_40 t0 x1 x2 x4 x5 x6 x_31 x6 z c s P))))
theorem U_X11_placesInOrder_16  {t0 : Nat} {x1 : Int} {x2 : Int} {x4 : Int} {x5 : Option Nat} {x6 : Int} {z : Z} {c : Nat} {s : Nat} {P : (Int × Z) ⊕ ((Z)) → Prop} {post : Option Sv ⊕ String → Hp → Prop} (r_x1 : R32 x1) (r_x2 : R32 x2) (r_x4 : R32 x4) (r_x6 : R32 x6) (hw : Wz z)  (hl : ∀ (x6 : Int) (z : Z), P (.inl (x6, z)) → Wz z → R32 x6 → J mX11_placesInOrder 4 c s post 16 [some (vr (some t0)), some (ii (x1)), some (ii (x2)), none, some (ii (x4)), some (vr (x5)), some (ii (x6)), none, none] [] (cz z)) (he0 : ∀ (z : Z), P (.inr z) → Wz z → J mX11_placesInOrder 4 c s post 101 [none, none, none, none, none, some (vr (x5)), none, none, none] [] (cz z)) (H : L_X11_placesInOrder_16 t0 x1 x2 x4 x5 x6 z c s P) : J mX11_placesInOrder 4 c s post 16 [some (vr (some t0)), some (ii (x1)), some (ii (x2)), none, some (ii (x4)), some (vr (x5)), some (ii (x6)), none, none] [] (cz z) := by
  unfold L_X11_placesInOrder_16 at H
  refine j_iload (dk dt_X11_placesInOrder 11 rfl) rfl ?_
  refine j_aload (dk dt_X11_placesInOrder 12 rfl) rfl ?_
  obtain ⟨a_20, e_20, k_20, H⟩ := H
  refine jz_alen (t := 1) (dk dt_X11_placesInOrder 13 rfl) e_20 k_20 (by decide) hw ?_
  refine jz_icmp_ge 101 (dk dt_X11_placesInOrder 14 rfl) (by decide) r_x6 (r32_len hw _) H (fun H => ?_) (fun H => ?_)
  · exact j_el (he0 _ H hw) (And.intro rfl trivial)
  · refine j_aload_n (dk dt_X11_placesInOrder 15 rfl) rfl ?_
    refine j_iconst (v := Int32.ofInt (-1)) (dk dt_X11_placesInOrder 16 rfl) (by decide) ?_
    refine j_iload_n (dk dt_X11_placesInOrder 17 rfl) rfl ?_
    refine j_iload (dk dt_X11_placesInOrder 18 rfl) rfl ?_
    refine jz_iadd (dk dt_X11_placesInOrder 19 rfl) ?_
    refine j_iload_n (dk dt_X11_placesInOrder 20 rfl) rfl ?_
    obtain ⟨k_31, H⟩ := H
    refine jz_callV3 (dk dt_X11_placesInOrder 21 rfl) vl_X11_345 rfl (T_X11_seen (by decide) (r32_w _) r_x1 hw H) k_31 rfl (by decide) (Nat.zero_le _) (Nat.zero_le _) (Nat.le_of_ble_eq_true rfl) (fun v_31 h_31 P_31 => ?_)
    obtain ⟨x_31, rfl, rfl, H⟩ := P_31
    dsimp only [rs]
    refine j_astore (dk dt_X11_placesInOrder 22 rfl) (by decide) ?_
    refine j_iload (dk dt_X11_placesInOrder 23 rfl) rfl ?_
    refine j_istore (dk dt_X11_placesInOrder 24 rfl) (by decide) ?_
    exact j_el (T_X11_placesInOrder_40 r_x1 r_x2 r_x4 r_x6 r_x6 hw  hl he0 H) (And.intro rfl (And.intro rfl (And.intro rfl (And.intro rfl (And.intro rfl (And.intro rfl (And.intro rfl (And.intro rfl trivial))))))))
def F_X11_placesInOrder_16  (t0 : Nat) (x1 : Int) (x2 : Int) (x4 : Int) (x5 : Option Nat) (x6 : Int) (z : Z) (c : Nat) (s : Nat) (P : Option Nat → Z → Prop) : Prop :=
  lp (S := Int × Z) (E := (Z)) (fun q P_ => L_X11_placesInOrder_16 t0 x1 x2 x4 x5 q.1 q.2 c s P_) (x6, z) (fun (z : Z) => P x5 z)
theorem T_X11_placesInOrder_16  {t0 : Nat} {x1 : Int} {x2 : Int} {x4 : Int} {x5 : Option Nat} {x6 : Int} {z : Z} {c : Nat} {s : Nat} {P : Option Nat → Z → Prop} (r_x1 : R32 x1) (r_x2 : R32 x2) (r_x4 : R32 x4) (r_x6 : R32 x6) (hw : Wz z)   (H : F_X11_placesInOrder_16 t0 x1 x2 x4 x5 x6 z c s P) : J mX11_placesInOrder 4 c s (nx (QZA P)) 16 [some (vr (some t0)), some (ii (x1)), some (ii (x2)), none, some (ii (x4)), some (vr (x5)), some (ii (x6)), none, none] [] (cz z) := by
  unfold F_X11_placesInOrder_16 at H
  refine lp_J (G := fun q => Wz (q.2) → R32 (q.1) → J mX11_placesInOrder 4 c s (nx (QZA P)) 16 [some (vr (some t0)), some (ii (x1)), some (ii (x2)), none, some (ii (x4)), some (vr (x5)), some (ii ((q.1))), none, none] [] (cz (q.2))) (fun q P_ hl_ he_ Hb => ?_) (x6, z) H hw r_x6
  obtain ⟨x6, z⟩ := q
  intro hw r_x6
  refine U_X11_placesInOrder_16 (P := P_) r_x1 r_x2 r_x4 r_x6 hw  (fun x6 z Hp hw r_x6 => hl_ (x6, z) Hp hw r_x6) ?_ Hb
  · intro z Hp hw
    have H := he_ _ Hp
    refine j_aload (dk dt_X11_placesInOrder 58 rfl) rfl ?_
    exact j_areturn (dk dt_X11_placesInOrder 59 rfl) rfl rfl ⟨_, _, rfl, rfl, hw, H⟩
def F_X11_placesInOrder  (t0 : Nat) (x1 : Int) (x2 : Int) (x3 : Int) (x4 : Int) (z : Z) (c : Nat) (s : Nat) (P : Option Nat → Z → Prop) : Prop :=
  (0 ≤ max (w32 (w32 (x3 - x2) + 1)) 0 ∧ max (w32 (w32 (x3 - x2) + 1)) 0 < (33554432 : Int) ∧ 1 ≤ c ∧ Int.toNat (max (w32 (w32 (x3 - x2) + 1)) 0) ≤ s ∧ ∀ a_9, zK z a_9 = 0 → (∀ z_9, z_9 = nZ z a_9 15 (max (w32 (w32 (x3 - x2) + 1)) 0) → F_X11_placesInOrder_16 t0 x1 x2 x4 (some a_9) 0 z_9 (c - 1) (s - Int.toNat (max (w32 (w32 (x3 - x2) + 1)) 0)) P))
theorem T_X11_placesInOrder  {t0 : Nat} {x1 : Int} {x2 : Int} {x3 : Int} {x4 : Int} {z : Z} {c : Nat} {s : Nat} {P : Option Nat → Z → Prop} (r_x1 : R32 x1) (r_x2 : R32 x2) (r_x3 : R32 x3) (r_x4 : R32 x4) (hw : Wz z)  (H : F_X11_placesInOrder t0 x1 x2 x3 x4 z c s P) : Con mX11_placesInOrder 4 c s [vr (some t0), ii (x1), ii (x2), ii (x3), ii (x4)] (cz z) (QZA P) := by
  refine con_of rfl (Nat.le_of_ble_eq_true rfl) (by decide) ?_
  show J mX11_placesInOrder 4 c s _ 0 [some (vr (some t0)), some (ii (x1)), some (ii (x2)), some (ii (x3)), some (ii (x4)), none, none, none, none] [] (cz z)
  unfold F_X11_placesInOrder at H
  refine j_iload_n (dk dt_X11_placesInOrder 0 rfl) rfl ?_
  refine j_iload_n (dk dt_X11_placesInOrder 1 rfl) rfl ?_
  refine jz_isub (dk dt_X11_placesInOrder 2 rfl) ?_
  refine j_iconst (v := Int32.ofInt 1) (dk dt_X11_placesInOrder 3 rfl) (by decide) ?_
  refine jz_iadd (dk dt_X11_placesInOrder 4 rfl) ?_
  refine j_iconst (v := Int32.ofInt 0) (dk dt_X11_placesInOrder 5 rfl) (by decide) ?_
  refine jz_mmax (dk dt_X11_placesInOrder 6 rfl) sl_X11_365 (by decide) (Nat.le_of_ble_eq_true rfl) (r32_w _) (by decide) ?_
  obtain ⟨p_9, q_9, hc_9, hs_9, H⟩ := H
  refine jz_newI (dk dt_X11_placesInOrder 7 rfl) p_9 q_9 hc_9 hs_9 hw (fun a_9 e_9 w_9 => ?_)
  replace H := H a_9 e_9
  replace H := H _ rfl
  refine j_astore (dk dt_X11_placesInOrder 8 rfl) (by decide) ?_
  refine j_iconst (v := Int32.ofInt 0) (dk dt_X11_placesInOrder 9 rfl) (by decide) ?_
  refine j_istore (dk dt_X11_placesInOrder 10 rfl) (by decide) ?_
  exact j_el (T_X11_placesInOrder_16 r_x1 r_x2 r_x4 (by decide) w_9   H) (And.intro rfl (And.intro rfl (And.intro rfl (And.intro rfl (And.intro rfl (And.intro rfl trivial))))))
def F_X7_again_17  (x1 : Option Nat) (z : Z) (P : Option Nat → Z → Prop) : Prop :=
  P x1 z
theorem T_X7_again_17  {x1 : Option Nat} {z : Z} {P : Option Nat → Z → Prop}  (hw : Wz z)   (H : F_X7_again_17 x1 z P) : J mX7_again 1 0 0 (nx (QZA P)) 17 [none, some (vr (x1))] [] (cz z) := by
  unfold F_X7_again_17 at H
  refine j_aload_n (dk dt_X7_again 8 rfl) rfl ?_
  exact j_areturn (dk dt_X7_again 9 rfl) rfl rfl ⟨_, _, rfl, rfl, hw, H⟩
def F_X7_again  (t0 : Nat) (x1 : Option Nat) (z : Z) (P : Option Nat → Z → Prop) : Prop :=
  (zK z t0 = 8 ∧ (if zI z t0 3 < 1 then F_X7_again_17 x1 z P else (if zI z t0 2 < 40 then (∀ z_26, z_26 = wI z t0 3 (w32 ((zI z t0 3) - 1)) → (∃ a_38, zO z_26 t0 0 = some a_38 ∧ zK z_26 a_38 = 21 ∧ (0 ≤ zI z_26 t0 2 ∧ zI z_26 t0 2 < zN z_26 a_38 ∧ ((∀ v, x1 = some v → zK z_26 v = 7) ∧ (∀ z_38, z_38 = wO z_26 a_38 (zI z_26 t0 2) x1 → (∀ z_46, z_46 = wI z_38 t0 2 (w32 (zI z_38 t0 2 + 1)) → (∃ a_57, zO z_46 t0 1 = some a_57 ∧ zK z_46 a_57 = 21 ∧ (0 ≤ zI z_46 t0 3 ∧ zI z_46 t0 3 < zN z_46 a_57 ∧ P (zO z_46 a_57 (zI z_46 t0 3)) z_46)))))))) else F_X7_again_17 x1 z P)))
theorem T_X7_again  {t0 : Nat} {x1 : Option Nat} {z : Z} {P : Option Nat → Z → Prop}  (hw : Wz z)  (H : F_X7_again t0 x1 z P) : Con mX7_again 1 0 0 [vr (some t0), vr (x1)] (cz z) (QZA P) := by
  refine con_of rfl (Nat.le_of_ble_eq_true rfl) (by decide) ?_
  show J mX7_again 1 0 0 _ 0 [some (vr (some t0)), some (vr (x1))] [] (cz z)
  unfold F_X7_again at H
  refine j_aload_n (dk dt_X7_again 0 rfl) rfl ?_
  obtain ⟨k_1, H⟩ := H
  refine jz_getI (kz := 3) (dk dt_X7_again 1 rfl) fl_X7_24 rfl rfl rfl k_1 ?_
  refine j_iconst (v := Int32.ofInt 1) (dk dt_X7_again 2 rfl) (by decide) ?_
  refine jz_icmp_lt 17 (dk dt_X7_again 3 rfl) (by decide) (hw.1 _ _) (by decide) H (fun H => ?_) (fun H => ?_)
  · exact j_el (T_X7_again_17  hw   H) (And.intro rfl trivial)
  · refine j_aload_n (dk dt_X7_again 4 rfl) rfl ?_
    refine jz_getI (kz := 2) (dk dt_X7_again 5 rfl) fl_X7_20 rfl rfl rfl k_1 ?_
    refine j_bipush (v := Int32.ofInt 40) (dk dt_X7_again 6 rfl) (by decide) ?_
    refine jz_icmp_lt 19 (dk dt_X7_again 7 rfl) (by decide) (hw.1 _ _) (by decide) H (fun H => ?_) (fun H => ?_)
    · refine j_aload_n (dk dt_X7_again 10 rfl) rfl ?_
      refine j_dup (dk dt_X7_again 11 rfl) rfl ?_
      refine jz_getI (kz := 3) (dk dt_X7_again 12 rfl) fl_X7_24 rfl rfl rfl k_1 ?_
      refine j_iconst (v := Int32.ofInt 1) (dk dt_X7_again 13 rfl) (by decide) ?_
      refine jz_isub (dk dt_X7_again 14 rfl) ?_
      refine jz_putI (kz := 3) (dk dt_X7_again 15 rfl) fl_X7_24 rfl rfl rfl rfl rfl k_1 hw (r32_w _) (fun w_26 => ?_)
      replace H := H _ rfl
      refine j_aload_n (dk dt_X7_again 16 rfl) rfl ?_
      refine jz_getO (kz := 0) (dk dt_X7_again 17 rfl) fl_X7_11 rfl rfl rfl k_1 ?_
      refine j_aload_n (dk dt_X7_again 18 rfl) rfl ?_
      refine jz_getI (kz := 2) (dk dt_X7_again 19 rfl) fl_X7_20 rfl rfl rfl k_1 ?_
      refine j_aload_n (dk dt_X7_again 20 rfl) rfl ?_
      obtain ⟨a_38, e_38, k_38, H⟩ := H
      obtain ⟨p_38, q_38, H⟩ := H
      obtain ⟨v_38, H⟩ := H
      refine jz_aast (t := 7) (dk dt_X7_again 21 rfl) e_38 k_38 (by decide) (by decide) p_38 q_38 w_26 v_38 (fun w_38 => ?_)
      replace H := H _ rfl
      refine j_aload_n (dk dt_X7_again 22 rfl) rfl ?_
      refine j_dup (dk dt_X7_again 23 rfl) rfl ?_
      refine jz_getI (kz := 2) (dk dt_X7_again 24 rfl) fl_X7_20 rfl rfl rfl k_1 ?_
      refine j_iconst (v := Int32.ofInt 1) (dk dt_X7_again 25 rfl) (by decide) ?_
      refine jz_iadd (dk dt_X7_again 26 rfl) ?_
      refine jz_putI (kz := 2) (dk dt_X7_again 27 rfl) fl_X7_20 rfl rfl rfl rfl rfl k_1 w_38 (r32_w _) (fun w_46 => ?_)
      replace H := H _ rfl
      refine j_aload_n (dk dt_X7_again 28 rfl) rfl ?_
      refine jz_getO (kz := 1) (dk dt_X7_again 29 rfl) fl_X7_17 rfl rfl rfl k_1 ?_
      refine j_aload_n (dk dt_X7_again 30 rfl) rfl ?_
      refine jz_getI (kz := 3) (dk dt_X7_again 31 rfl) fl_X7_24 rfl rfl rfl k_1 ?_
      obtain ⟨a_57, e_57, k_57, H⟩ := H
      obtain ⟨p_57, q_57, H⟩ := H
      refine jz_aald (t := 7) (dk dt_X7_again 32 rfl) e_57 k_57 (by decide) (by decide) p_57 q_57 w_46 ?_
      exact j_areturn (dk dt_X7_again 33 rfl) rfl rfl ⟨_, _, rfl, rfl, w_46, H⟩
    · exact j_el (T_X7_again_17  hw   H) (And.intro rfl trivial)
def F_X11_redo  (t0 : Nat) (z : Z) (c : Nat) (s : Nat) (P : Int → Z → Prop) (X : Nat → Z → Prop) : Prop :=
  (zK z t0 = 12 ∧ (∃ a_4, zO z t0 5 = some a_4 ∧ zK z a_4 = 8 ∧ (if zI z a_4 3 = 0 then (1 ≤ c ∧ 6 ≤ s ∧ X 4 z) else F_X7_again a_4 (zO z t0 11) z (fun x_27 z_27 => (zK z_27 t0 = 12 ∧ F_X11_show t0 x_27 z_27 (fun z_30 => (zK z_30 t0 = 12 ∧ (∃ a_37, zO z_30 t0 5 = some a_37 ∧ zK z_30 a_37 = 8 ∧ P (zI z_30 a_37 3) z_30))))))))
theorem T_X11_redo  {t0 : Nat} {z : Z} {c : Nat} {s : Nat} {P : Int → Z → Prop} {X : Nat → Z → Prop}  (hw : Wz z)  (H : F_X11_redo t0 z c s P X) : ConX mX11_redo 6 c s [vr (some t0)] (cz z) (QX (QZI P) X) := by
  refine con_ofX rfl (Nat.le_of_ble_eq_true rfl) (by decide) (by decide) ?_
  show J mX11_redo 6 c s _ 0 [some (vr (some t0))] [] (cz z)
  unfold F_X11_redo at H
  refine j_aload_n (dk dt_X11_redo 0 rfl) rfl ?_
  obtain ⟨k_1, H⟩ := H
  refine jz_getO (kz := 5) (dk dt_X11_redo 1 rfl) fl_X11_53 rfl rfl rfl k_1 ?_
  obtain ⟨a_4, e_4, k_4, H⟩ := H
  refine jz_getI (kz := 3) (dk dt_X11_redo 2 rfl) fl_X11_233 rfl rfl e_4 k_4 ?_
  refine jz_if_ne 18 (dk dt_X11_redo 3 rfl) (by decide) (hw.1 _ _) H (fun H => ?_) (fun H => ?_)
  · obtain ⟨hc_, hs_, H⟩ := H
    exact j_throw (E := "java/util/NoSuchElementException") ⟨223, 225, by decide, (dk dt_X11_redo 4 rfl), (dk dt_X11_redo 5 rfl), (dk dt_X11_redo 6 rfl), (dk dt_X11_redo 7 rfl)⟩ hc_ hs_ (Nat.le_of_ble_eq_true rfl) ⟨4, _, rfl, rfl, hw, H⟩
  · refine j_aload_n (dk dt_X11_redo 8 rfl) rfl ?_
    refine j_aload_n (dk dt_X11_redo 9 rfl) rfl ?_
    refine jz_getO (kz := 5) (dk dt_X11_redo 10 rfl) fl_X11_53 rfl rfl rfl k_1 ?_
    refine j_aload_n (dk dt_X11_redo 11 rfl) rfl ?_
    refine jz_getO (kz := 11) (dk dt_X11_redo 12 rfl) fl_X11_104 rfl rfl rfl k_1 ?_
    refine jz_callV1 (dk dt_X11_redo 13 rfl) vl_X11_236 e_4 (T_X7_again hw H) k_4 rfl (by decide) (Nat.zero_le _) (Nat.zero_le _) (Nat.le_of_ble_eq_true rfl) (fun v_27 h_27 P_27 => ?_)
    obtain ⟨x_27, z_27, rfl, rfl, w_27, H⟩ := P_27
    dsimp only [rs]
    obtain ⟨k_30, H⟩ := H
    refine jz_callV1 (dk dt_X11_redo 14 rfl) vl_X11_230 rfl (T_X11_show w_27 H) k_30 rfl (by decide) (Nat.zero_le _) (Nat.zero_le _) (Nat.le_of_ble_eq_true rfl) (fun v_30 h_30 P_30 => ?_)
    obtain ⟨z_30, rfl, rfl, w_30, H⟩ := P_30
    dsimp only [rs]
    refine j_aload_n (dk dt_X11_redo 15 rfl) rfl ?_
    obtain ⟨k_34, H⟩ := H
    refine jz_getO (kz := 5) (dk dt_X11_redo 16 rfl) fl_X11_53 rfl rfl rfl k_34 ?_
    obtain ⟨a_37, e_37, k_37, H⟩ := H
    refine jz_getI (kz := 3) (dk dt_X11_redo 17 rfl) fl_X11_233 rfl rfl e_37 k_37 ?_
    exact j_ireturn (dk dt_X11_redo 18 rfl) rfl rfl ⟨_, _, rfl, (w_30.1 _ _), rfl, w_30, H⟩
def F_X11_remove_35  (z : Z) (c : Nat) (s : Nat) (P : Int → Z → Prop) (X : Nat → Z → Prop) : Prop :=
  (1 ≤ c ∧ 6 ≤ s ∧ X 0 z)
theorem T_X11_remove_35  {z : Z} {c : Nat} {s : Nat} {P : Int → Z → Prop} {X : Nat → Z → Prop}  (hw : Wz z)   (H : F_X11_remove_35 z c s P X) : J mX11_remove 6 c s (QX (QZI P) X) 35 [none, none, none, none] [] (cz z) := by
  unfold F_X11_remove_35 at H
  obtain ⟨hc_, hs_, H⟩ := H
  exact j_throw (E := "java/lang/IndexOutOfBoundsException") ⟨117, 119, by decide, (dk dt_X11_remove 19 rfl), (dk dt_X11_remove 20 rfl), (dk dt_X11_remove 21 rfl), (dk dt_X11_remove 22 rfl)⟩ hc_ hs_ (Nat.le_of_ble_eq_true rfl) ⟨0, _, rfl, rfl, hw, H⟩
def F_X11_remove  (t0 : Nat) (x1 : Int) (x2 : Int) (z : Z) (c : Nat) (s : Nat) (P : Int → Z → Prop) (X : Nat → Z → Prop) : Prop :=
  F_X11_isAxis x1 (fun x_1 => (if x_1 = 0 then (1 ≤ c ∧ 6 ≤ s ∧ X 1 z) else (zK z t0 = 12 ∧ (∃ a_20, zO z t0 11 = some a_20 ∧ zK z a_20 = 7 ∧ F_X6_line a_20 x1 z (fun x_20 => (if x2 < 1 then F_X11_remove_35 z c s P X else (∃ a_31, x_20 = some a_31 ∧ zK z a_31 = 15 ∧ (if x2 ≤ zN z a_31 then (if zN z a_31 = 1 then (1 ≤ c ∧ 6 ≤ s ∧ X 3 z) else (∃ c_65 s_65, c_65 ≤ c ∧ s_65 ≤ s ∧ F_X11_without x_20 x2 z c_65 s_65 (fun x_65 z_65 => (∃ a_68, zO z t0 11 = some a_68 ∧ zK z_65 a_68 = 7 ∧ (∃ c_68 s_68, c_68 ≤ c - c_65 ∧ s_68 ≤ s - s_65 ∧ F_X6_shapedAlong a_68 x1 x_65 z_65 c_68 s_68 (fun x_68 z_68 => (zK z_68 t0 = 12 ∧ F_X11_step t0 x_68 z_68 (fun z_71 => (∃ a_75, x_20 = some a_75 ∧ zK z_71 a_75 = 15 ∧ P (w32 ((zN z_71 a_75) - 1)) z_71))))))))) else F_X11_remove_35 z c s P X))))))))
theorem T_X11_remove  {t0 : Nat} {x1 : Int} {x2 : Int} {z : Z} {c : Nat} {s : Nat} {P : Int → Z → Prop} {X : Nat → Z → Prop} (r_x1 : R32 x1) (r_x2 : R32 x2) (hw : Wz z)  (H : F_X11_remove t0 x1 x2 z c s P X) : ConX mX11_remove 6 c s [vr (some t0), ii (x1), ii (x2)] (cz z) (QX (QZI P) X) := by
  refine con_ofX rfl (Nat.le_of_ble_eq_true rfl) (by decide) (by decide) ?_
  show J mX11_remove 6 c s _ 0 [some (vr (some t0)), some (ii (x1)), some (ii (x2)), none] [] (cz z)
  unfold F_X11_remove at H
  refine j_iload_n (dk dt_X11_remove 0 rfl) rfl ?_
  refine j_callS1 (dk dt_X11_remove 1 rfl) sl_X11_156 (T_X11_isAxis r_x1 H) rfl (by decide) (Nat.zero_le _) (Nat.zero_le _) (Nat.le_of_ble_eq_true rfl) (fun v_1 h_1 P_1 => ?_)
  obtain ⟨x_1, rfl, r_1, rfl, H⟩ := P_1
  dsimp only [rs]
  refine jz_if_ne 15 (dk dt_X11_remove 2 rfl) (by decide) r_1 H (fun H => ?_) (fun H => ?_)
  · obtain ⟨hc_, hs_, H⟩ := H
    exact j_throw (E := "java/lang/IllegalArgumentException") ⟨127, 129, by decide, (dk dt_X11_remove 3 rfl), (dk dt_X11_remove 4 rfl), (dk dt_X11_remove 5 rfl), (dk dt_X11_remove 6 rfl)⟩ hc_ hs_ (Nat.le_of_ble_eq_true rfl) ⟨1, _, rfl, rfl, hw, H⟩
  · refine j_aload_n (dk dt_X11_remove 7 rfl) rfl ?_
    obtain ⟨k_16, H⟩ := H
    refine jz_getO (kz := 11) (dk dt_X11_remove 8 rfl) fl_X11_104 rfl rfl rfl k_16 ?_
    refine j_iload_n (dk dt_X11_remove 9 rfl) rfl ?_
    obtain ⟨a_20, e_20, k_20, H⟩ := H
    refine jz_callV1 (dk dt_X11_remove 10 rfl) vl_X11_160 e_20 (T_X6_line r_x1 hw H) k_20 rfl (by decide) (Nat.zero_le _) (Nat.zero_le _) (Nat.le_of_ble_eq_true rfl) (fun v_20 h_20 P_20 => ?_)
    obtain ⟨x_20, rfl, rfl, H⟩ := P_20
    dsimp only [rs]
    refine j_astore_n (dk dt_X11_remove 11 rfl) (by decide) ?_
    refine j_iload_n (dk dt_X11_remove 12 rfl) rfl ?_
    refine j_iconst (v := Int32.ofInt 1) (dk dt_X11_remove 13 rfl) (by decide) ?_
    refine jz_icmp_lt 35 (dk dt_X11_remove 14 rfl) (by decide) r_x2 (by decide) H (fun H => ?_) (fun H => ?_)
    · exact j_el (T_X11_remove_35  hw   H) trivial
    · refine j_iload_n (dk dt_X11_remove 15 rfl) rfl ?_
      refine j_aload_n (dk dt_X11_remove 16 rfl) rfl ?_
      obtain ⟨a_31, e_31, k_31, H⟩ := H
      refine jz_alen (t := 1) (dk dt_X11_remove 17 rfl) e_31 k_31 (by decide) hw ?_
      refine jz_icmp_le 43 (dk dt_X11_remove 18 rfl) (by decide) r_x2 (r32_len hw _) H (fun H => ?_) (fun H => ?_)
      · refine j_aload_n (dk dt_X11_remove 23 rfl) rfl ?_
        refine jz_alen (t := 1) (dk dt_X11_remove 24 rfl) e_31 k_31 (by decide) hw ?_
        refine j_iconst (v := Int32.ofInt 1) (dk dt_X11_remove 25 rfl) (by decide) ?_
        refine jz_icmp_ne 57 (dk dt_X11_remove 26 rfl) (by decide) (r32_len hw _) (by decide) H (fun H => ?_) (fun H => ?_)
        · obtain ⟨hc_, hs_, H⟩ := H
          exact j_throw (E := "java/lang/IllegalStateException") ⟨167, 169, by decide, (dk dt_X11_remove 27 rfl), (dk dt_X11_remove 28 rfl), (dk dt_X11_remove 29 rfl), (dk dt_X11_remove 30 rfl)⟩ hc_ hs_ (Nat.le_of_ble_eq_true rfl) ⟨3, _, rfl, rfl, hw, H⟩
        · refine j_aload_n (dk dt_X11_remove 31 rfl) rfl ?_
          refine j_aload_n (dk dt_X11_remove 32 rfl) rfl ?_
          refine jz_getO (kz := 11) (dk dt_X11_remove 33 rfl) fl_X11_104 rfl rfl rfl k_16 ?_
          refine j_iload_n (dk dt_X11_remove 34 rfl) rfl ?_
          refine j_aload_n (dk dt_X11_remove 35 rfl) rfl ?_
          refine j_iload_n (dk dt_X11_remove 36 rfl) rfl ?_
          obtain ⟨c_65, s_65, hc_65, hs_65, H⟩ := H
          refine j_callS2 (dk dt_X11_remove 37 rfl) sl_X11_181 (T_X11_without r_x2 hw H) rfl (by decide) hc_65 hs_65 (Nat.le_of_ble_eq_true rfl) (fun v_65 h_65 P_65 => ?_)
          obtain ⟨x_65, z_65, rfl, rfl, w_65, H⟩ := P_65
          dsimp only [rs]
          obtain ⟨a_68, e_68, k_68, H⟩ := H
          obtain ⟨c_68, s_68, hc_68, hs_68, H⟩ := H
          refine jz_callV2 (dk dt_X11_remove 38 rfl) vl_X11_177 e_68 (T_X6_shapedAlong r_x1 w_65 H) k_68 rfl (by decide) hc_68 hs_68 (Nat.le_of_ble_eq_true rfl) (fun v_68 h_68 P_68 => ?_)
          obtain ⟨x_68, z_68, rfl, rfl, w_68, H⟩ := P_68
          dsimp only [rs]
          obtain ⟨k_71, H⟩ := H
          refine jz_callV1 (dk dt_X11_remove 39 rfl) vl_X11_145 rfl (T_X11_step w_68 H) k_71 rfl (by decide) (Nat.zero_le _) (Nat.zero_le _) (Nat.le_of_ble_eq_true rfl) (fun v_71 h_71 P_71 => ?_)
          obtain ⟨z_71, rfl, rfl, w_71, H⟩ := P_71
          dsimp only [rs]
          refine j_aload_n (dk dt_X11_remove 40 rfl) rfl ?_
          obtain ⟨a_75, e_75, k_75, H⟩ := H
          refine jz_alen (t := 1) (dk dt_X11_remove 41 rfl) e_75 k_75 (by decide) w_71 ?_
          refine j_iconst (v := Int32.ofInt 1) (dk dt_X11_remove 42 rfl) (by decide) ?_
          refine jz_isub (dk dt_X11_remove 43 rfl) ?_
          exact j_ireturn (dk dt_X11_remove 44 rfl) rfl rfl ⟨_, _, rfl, (r32_w _), rfl, w_71, H⟩
      · exact j_el (T_X11_remove_35  hw   H) trivial
def F_X11_sheet_77  (s0 : Int) (z : Z) (P : Int → Prop) : Prop :=
  P s0
theorem T_X11_sheet_77  {s0 : Int} {z : Z} {P : Int → Prop} (r_s0 : R32 s0) (hw : Wz z)   (H : F_X11_sheet_77 s0 z P) : J mX11_sheet 3 0 0 (nx (QPI (cz z) P)) 77 [none, none, none, none] [ii (s0)] (cz z) := by
  unfold F_X11_sheet_77 at H
  exact j_ireturn (dk dt_X11_sheet 29 rfl) rfl rfl ⟨_, rfl, r_s0, rfl, H⟩
def F_X11_sheet_99  (s0 : Int) (z : Z) (P : Int → Prop) : Prop :=
  P s0
theorem T_X11_sheet_99  {s0 : Int} {z : Z} {P : Int → Prop} (r_s0 : R32 s0) (hw : Wz z)   (H : F_X11_sheet_99 s0 z P) : J mX11_sheet 3 0 0 (nx (QPI (cz z) P)) 99 [none, none, none, none] [ii (s0)] (cz z) := by
  unfold F_X11_sheet_99 at H
  exact j_ireturn (dk dt_X11_sheet 41 rfl) rfl rfl ⟨_, rfl, r_s0, rfl, H⟩
def F_X11_sheet  (t0 : Nat) (x1 : Int) (x2 : Int) (z : Z) (P : Int → Prop) : Prop :=
  (zK z t0 = 12 ∧ F_X11_sheetOf t0 x1 z (fun x_2 => (if x_2 = none then P (-1) else (if x2 = 0 then (∃ a_45, x_2 = some a_45 ∧ zK z a_45 = 7 ∧ (∃ a_48, zO z a_45 0 = some a_48 ∧ zK z a_48 = 15 ∧ P (zN z a_48))) else (if x2 = 1 then (∃ a_51, x_2 = some a_51 ∧ zK z a_51 = 7 ∧ (∃ a_54, zO z a_51 1 = some a_54 ∧ zK z a_54 = 15 ∧ P (zN z a_54))) else (if x2 = 2 then (if x1 = (-1) then F_X11_head t0 z (fun x_62 => F_X11_sheet_77 x_62 z P) else (∃ a_72, zO z t0 2 = some a_72 ∧ zK z a_72 = 3 ∧ (∃ a_76, zO z a_72 1 = some a_76 ∧ zK z a_76 = 15 ∧ (0 ≤ x1 ∧ x1 < zN z a_76 ∧ F_X11_sheet_77 (zI z a_76 x1) z P)))) else (if x2 = 3 then (if x1 = (-1) then F_X11_sheet_99 (zI z t0 13) z P else (∃ a_94, zO z t0 2 = some a_94 ∧ zK z a_94 = 3 ∧ (∃ a_98, zO z a_94 2 = some a_98 ∧ zK z a_98 = 15 ∧ (0 ≤ x1 ∧ x1 < zN z a_98 ∧ F_X11_sheet_99 (zI z a_98 x1) z P)))) else P (-1))))))))
theorem T_X11_sheet  {t0 : Nat} {x1 : Int} {x2 : Int} {z : Z} {P : Int → Prop} (r_x1 : R32 x1) (r_x2 : R32 x2) (hw : Wz z)  (H : F_X11_sheet t0 x1 x2 z P) : Con mX11_sheet 3 0 0 [vr (some t0), ii (x1), ii (x2)] (cz z) (QPI (cz z) P) := by
  refine con_of rfl (Nat.le_of_ble_eq_true rfl) (by decide) ?_
  show J mX11_sheet 3 0 0 _ 0 [some (vr (some t0)), some (ii (x1)), some (ii (x2)), none] [] (cz z)
  unfold F_X11_sheet at H
  refine j_aload_n (dk dt_X11_sheet 0 rfl) rfl ?_
  refine j_iload_n (dk dt_X11_sheet 1 rfl) rfl ?_
  obtain ⟨k_2, H⟩ := H
  refine jz_callV1 (dk dt_X11_sheet 2 rfl) vl_X11_312 rfl (T_X11_sheetOf r_x1 hw H) k_2 rfl (by decide) (Nat.zero_le _) (Nat.zero_le _) (Nat.le_of_ble_eq_true rfl) (fun v_2 h_2 P_2 => ?_)
  obtain ⟨x_2, rfl, rfl, H⟩ := P_2
  dsimp only [rs]
  refine j_astore_n (dk dt_X11_sheet 3 rfl) (by decide) ?_
  refine j_aload_n (dk dt_X11_sheet 4 rfl) rfl ?_
  refine jz_ifnonnull 12 (dk dt_X11_sheet 5 rfl) (by decide) H (fun H => ?_) (fun H => ?_)
  · refine j_iconst (v := Int32.ofInt (-1)) (dk dt_X11_sheet 6 rfl) (by decide) ?_
    exact j_ireturn (dk dt_X11_sheet 7 rfl) rfl rfl ⟨_, rfl, (by decide), rfl, H⟩
  · refine j_iload_n (dk dt_X11_sheet 8 rfl) rfl ?_
    by_cases y_13_0 : x2 = 0
    · rw [if_pos y_13_0] at H
      refine jz_tabIn 0 44 (dk dt_X11_sheet 9 rfl) r_x2 y_13_0 (by decide) (by decide) rfl (by decide) ?_
      refine j_aload_n (dk dt_X11_sheet 10 rfl) rfl ?_
      obtain ⟨a_45, e_45, k_45, H⟩ := H
      refine jz_getO (kz := 0) (dk dt_X11_sheet 11 rfl) fl_X11_190 rfl rfl e_45 k_45 ?_
      obtain ⟨a_48, e_48, k_48, H⟩ := H
      refine jz_alen (t := 1) (dk dt_X11_sheet 12 rfl) e_48 k_48 (by decide) hw ?_
      exact j_ireturn (dk dt_X11_sheet 13 rfl) rfl rfl ⟨_, rfl, (r32_len hw _), rfl, H⟩
    rw [if_neg y_13_0] at H
    by_cases y_13_1 : x2 = 1
    · rw [if_pos y_13_1] at H
      refine jz_tabIn 1 50 (dk dt_X11_sheet 9 rfl) r_x2 y_13_1 (by decide) (by decide) rfl (by decide) ?_
      refine j_aload_n (dk dt_X11_sheet 14 rfl) rfl ?_
      obtain ⟨a_51, e_51, k_51, H⟩ := H
      refine jz_getO (kz := 1) (dk dt_X11_sheet 15 rfl) fl_X11_197 rfl rfl e_51 k_51 ?_
      obtain ⟨a_54, e_54, k_54, H⟩ := H
      refine jz_alen (t := 1) (dk dt_X11_sheet 16 rfl) e_54 k_54 (by decide) hw ?_
      exact j_ireturn (dk dt_X11_sheet 17 rfl) rfl rfl ⟨_, rfl, (r32_len hw _), rfl, H⟩
    rw [if_neg y_13_1] at H
    by_cases y_13_2 : x2 = 2
    · rw [if_pos y_13_2] at H
      refine jz_tabIn 2 56 (dk dt_X11_sheet 9 rfl) r_x2 y_13_2 (by decide) (by decide) rfl (by decide) ?_
      refine j_iload_n (dk dt_X11_sheet 18 rfl) rfl ?_
      refine j_iconst (v := Int32.ofInt (-1)) (dk dt_X11_sheet 19 rfl) (by decide) ?_
      refine jz_icmp_ne 68 (dk dt_X11_sheet 20 rfl) (by decide) r_x1 (by decide) H (fun H => ?_) (fun H => ?_)
      · refine j_aload_n (dk dt_X11_sheet 21 rfl) rfl ?_
        refine jz_callV0 (dk dt_X11_sheet 22 rfl) vl_X11_249 rfl (T_X11_head hw H) k_2 rfl (by decide) (Nat.zero_le _) (Nat.zero_le _) (Nat.le_of_ble_eq_true rfl) (fun v_62 h_62 P_62 => ?_)
        obtain ⟨x_62, rfl, r_62, rfl, H⟩ := P_62
        dsimp only [rs]
        refine j_goto 77 (dk dt_X11_sheet 23 rfl) (by decide) ?_
        exact j_el (T_X11_sheet_77 r_62 hw   H) trivial
      · refine j_aload_n (dk dt_X11_sheet 24 rfl) rfl ?_
        refine jz_getO (kz := 2) (dk dt_X11_sheet 25 rfl) fl_X11_26 rfl rfl rfl k_2 ?_
        obtain ⟨a_72, e_72, k_72, H⟩ := H
        refine jz_getO (kz := 1) (dk dt_X11_sheet 26 rfl) fl_X11_285 rfl rfl e_72 k_72 ?_
        refine j_iload_n (dk dt_X11_sheet 27 rfl) rfl ?_
        obtain ⟨a_76, e_76, k_76, H⟩ := H
        obtain ⟨p_76, q_76, H⟩ := H
        refine jz_iald (dk dt_X11_sheet 28 rfl) e_76 k_76 p_76 q_76 hw ?_
        exact j_el (T_X11_sheet_77 (hw.1 _ _) hw   H) trivial
    rw [if_neg y_13_2] at H
    by_cases y_13_3 : x2 = 3
    · rw [if_pos y_13_3] at H
      refine jz_tabIn 3 78 (dk dt_X11_sheet 9 rfl) r_x2 y_13_3 (by decide) (by decide) rfl (by decide) ?_
      refine j_iload_n (dk dt_X11_sheet 30 rfl) rfl ?_
      refine j_iconst (v := Int32.ofInt (-1)) (dk dt_X11_sheet 31 rfl) (by decide) ?_
      refine jz_icmp_ne 90 (dk dt_X11_sheet 32 rfl) (by decide) r_x1 (by decide) H (fun H => ?_) (fun H => ?_)
      · refine j_aload_n (dk dt_X11_sheet 33 rfl) rfl ?_
        refine jz_getI (kz := 13) (dk dt_X11_sheet 34 rfl) fl_X11_77 rfl rfl rfl k_2 ?_
        refine j_goto 99 (dk dt_X11_sheet 35 rfl) (by decide) ?_
        exact j_el (T_X11_sheet_99 (hw.1 _ _) hw   H) trivial
      · refine j_aload_n (dk dt_X11_sheet 36 rfl) rfl ?_
        refine jz_getO (kz := 2) (dk dt_X11_sheet 37 rfl) fl_X11_26 rfl rfl rfl k_2 ?_
        obtain ⟨a_94, e_94, k_94, H⟩ := H
        refine jz_getO (kz := 2) (dk dt_X11_sheet 38 rfl) fl_X11_338 rfl rfl e_94 k_94 ?_
        refine j_iload_n (dk dt_X11_sheet 39 rfl) rfl ?_
        obtain ⟨a_98, e_98, k_98, H⟩ := H
        obtain ⟨p_98, q_98, H⟩ := H
        refine jz_iald (dk dt_X11_sheet 40 rfl) e_98 k_98 p_98 q_98 hw ?_
        exact j_el (T_X11_sheet_99 (hw.1 _ _) hw   H) trivial
    rw [if_neg y_13_3] at H
    refine jz_tabOut 100 (dk dt_X11_sheet 9 rfl) r_x2 (by omega) (by decide) ?_
    refine j_iconst (v := Int32.ofInt (-1)) (dk dt_X11_sheet 42 rfl) (by decide) ?_
    exact j_ireturn (dk dt_X11_sheet 43 rfl) rfl rfl ⟨_, rfl, (by decide), rfl, H⟩
