def F_X11_sort_24  (z : Z) (c : Nat) (s : Nat) (P : Int → Z → Prop) (X : Nat → Z → Prop) : Prop :=
  (1 ≤ c ∧ 6 ≤ s ∧ X 0 z)
theorem T_X11_sort_24  {z : Z} {c : Nat} {s : Nat} {P : Int → Z → Prop} {X : Nat → Z → Prop}  (hw : Wz z)   (H : F_X11_sort_24 z c s P X) : J mX11_sort 13 c s (QX (QZI P) X) 24 [none, none, none, none, none, none, none, none, none] [] (cz z) := by
  unfold F_X11_sort_24 at H
  obtain ⟨hc_, hs_, H⟩ := H
  exact j_throw (E := "java/lang/IndexOutOfBoundsException") ⟨117, 119, by decide, (dk dt_X11_sort 12 rfl), (dk dt_X11_sort 13 rfl), (dk dt_X11_sort 14 rfl), (dk dt_X11_sort 15 rfl)⟩ hc_ hs_ (Nat.le_of_ble_eq_true rfl) ⟨0, _, rfl, rfl, hw, H⟩
def F_X11_sort_133  (t0 : Nat) (x2 : Int) (x5 : Option Nat) (x6 : Option Nat) (x8 : Int) (s0 : Int) (s1 : Int) (z : Z) (c : Nat) (s : Nat) (P : (Int × Int × Z) ⊕ ((Int × Z)) → Prop) : Prop :=
  P (.inl (w32 (s0 + s1), w32 (x8 + 1), z))
theorem T_X11_sort_133  {t0 : Nat} {x2 : Int} {x5 : Option Nat} {x6 : Option Nat} {x8 : Int} {s0 : Int} {s1 : Int} {z : Z} {c : Nat} {s : Nat} {P : (Int × Int × Z) ⊕ ((Int × Z)) → Prop} {post : Option Sv ⊕ String → Hp → Prop} (r_x2 : R32 x2) (r_x8 : R32 x8) (r_s0 : R32 s0) (r_s1 : R32 s1) (hw : Wz z)  (hl : ∀ (x7 : Int) (x8 : Int) (z : Z), P (.inl (x7, x8, z)) → Wz z → R32 x7 → R32 x8 → J mX11_sort 13 c s post 82 [some (vr (some t0)), none, some (ii (x2)), none, none, some (vr (x5)), some (vr (x6)), some (ii (x7)), some (ii (x8))] [] (cz z)) (he0 : ∀ (x7 : Int) (z : Z), P (.inr (x7, z)) → Wz z → R32 x7 → J mX11_sort 13 c s post 142 [some (vr (some t0)), none, none, none, none, none, some (vr (x6)), some (ii (x7)), none] [] (cz z)) (H : F_X11_sort_133 t0 x2 x5 x6 x8 s0 s1 z c s P) : J mX11_sort 13 c s (post) 133 [some (vr (some t0)), none, some (ii (x2)), none, none, some (vr (x5)), some (vr (x6)), none, some (ii (x8))] [ii (s1), ii (s0)] (cz z) := by
  unfold F_X11_sort_133 at H
  refine jz_iadd (dk dt_X11_sort 74 rfl) ?_
  refine j_istore (dk dt_X11_sort 75 rfl) (by decide) ?_
  refine jz_iinc (dk dt_X11_sort 76 rfl) rfl ?_
  refine j_goto 82 (dk dt_X11_sort 77 rfl) (by decide) ?_
  exact j_el (hl _ _ _ H hw (r32_w _) (r32_w _)) (And.intro rfl (And.intro rfl (And.intro rfl (And.intro rfl (And.intro rfl (And.intro rfl trivial))))))
def L_X11_sort_82  (t0 : Nat) (x2 : Int) (x5 : Option Nat) (x6 : Option Nat) (x7 : Int) (x8 : Int) (z : Z) (c : Nat) (s : Nat) (P : (Int × Int × Z) ⊕ ((Int × Z)) → Prop) : Prop :=
  (∃ a_86, x5 = some a_86 ∧ zK z a_86 = 15 ∧ (if zN z a_86 ≤ x8 then P (.inr (x7, z)) else (zK z t0 = 12 ∧ (∃ a_102, zO z t0 11 = some a_102 ∧ zK z a_102 = 7 ∧ (0 ≤ x8 ∧ x8 < zN z a_86 ∧ (∃ a_112, zO z a_102 0 = some a_112 ∧ zK z a_112 = 15 ∧ (0 ≤ w32 ((zI z a_86 x8) - 1) ∧ w32 ((zI z a_86 x8) - 1) < zN z a_112 ∧ (∃ a_113, x6 = some a_113 ∧ zK z a_113 = 15 ∧ (0 ≤ w32 (w32 (x2 - 1) + x8) ∧ w32 (w32 (x2 - 1) + x8) < zN z a_113 ∧ (∀ z_113, z_113 = wI z a_113 (w32 (w32 (x2 - 1) + x8)) (zI z a_112 (w32 ((zI z a_86 x8) - 1))) → (∃ a_120, x5 = some a_120 ∧ zK z_113 a_120 = 15 ∧ (0 ≤ x8 ∧ x8 < zN z_113 a_120 ∧ (if zI z_113 a_120 x8 = w32 (x2 + x8) then F_X11_sort_133 t0 x2 x5 x6 x8 x7 0 z_113 c s P else F_X11_sort_133 t0 x2 x5 x6 x8 x7 1 z_113 c s P)))))))))))))
theorem U_X11_sort_82  {t0 : Nat} {x2 : Int} {x5 : Option Nat} {x6 : Option Nat} {x7 : Int} {x8 : Int} {z : Z} {c : Nat} {s : Nat} {P : (Int × Int × Z) ⊕ ((Int × Z)) → Prop} {post : Option Sv ⊕ String → Hp → Prop} (r_x2 : R32 x2) (r_x7 : R32 x7) (r_x8 : R32 x8) (hw : Wz z)  (hl : ∀ (x7 : Int) (x8 : Int) (z : Z), P (.inl (x7, x8, z)) → Wz z → R32 x7 → R32 x8 → J mX11_sort 13 c s post 82 [some (vr (some t0)), none, some (ii (x2)), none, none, some (vr (x5)), some (vr (x6)), some (ii (x7)), some (ii (x8))] [] (cz z)) (he0 : ∀ (x7 : Int) (z : Z), P (.inr (x7, z)) → Wz z → R32 x7 → J mX11_sort 13 c s post 142 [some (vr (some t0)), none, none, none, none, none, some (vr (x6)), some (ii (x7)), none] [] (cz z)) (H : L_X11_sort_82 t0 x2 x5 x6 x7 x8 z c s P) : J mX11_sort 13 c s post 82 [some (vr (some t0)), none, some (ii (x2)), none, none, some (vr (x5)), some (vr (x6)), some (ii (x7)), some (ii (x8))] [] (cz z) := by
  unfold L_X11_sort_82 at H
  refine j_iload (dk dt_X11_sort 43 rfl) rfl ?_
  refine j_aload (dk dt_X11_sort 44 rfl) rfl ?_
  obtain ⟨a_86, e_86, k_86, H⟩ := H
  refine jz_alen (t := 1) (dk dt_X11_sort 45 rfl) e_86 k_86 (by decide) hw ?_
  refine jz_icmp_ge 142 (dk dt_X11_sort 46 rfl) (by decide) r_x8 (r32_len hw _) H (fun H => ?_) (fun H => ?_)
  · exact j_el (he0 _ _ H hw r_x7) (And.intro rfl (And.intro rfl (And.intro rfl trivial)))
  · refine j_aload (dk dt_X11_sort 47 rfl) rfl ?_
    refine j_iload_n (dk dt_X11_sort 48 rfl) rfl ?_
    refine j_iconst (v := Int32.ofInt 1) (dk dt_X11_sort 49 rfl) (by decide) ?_
    refine jz_isub (dk dt_X11_sort 50 rfl) ?_
    refine j_iload (dk dt_X11_sort 51 rfl) rfl ?_
    refine jz_iadd (dk dt_X11_sort 52 rfl) ?_
    refine j_aload_n (dk dt_X11_sort 53 rfl) rfl ?_
    obtain ⟨k_99, H⟩ := H
    refine jz_getO (kz := 11) (dk dt_X11_sort 54 rfl) fl_X11_104 rfl rfl rfl k_99 ?_
    obtain ⟨a_102, e_102, k_102, H⟩ := H
    refine jz_getO (kz := 0) (dk dt_X11_sort 55 rfl) fl_X11_190 rfl rfl e_102 k_102 ?_
    refine j_aload (dk dt_X11_sort 56 rfl) rfl ?_
    refine j_iload (dk dt_X11_sort 57 rfl) rfl ?_
    obtain ⟨p_109, q_109, H⟩ := H
    refine jz_iald (dk dt_X11_sort 58 rfl) e_86 k_86 p_109 q_109 hw ?_
    refine j_iconst (v := Int32.ofInt 1) (dk dt_X11_sort 59 rfl) (by decide) ?_
    refine jz_isub (dk dt_X11_sort 60 rfl) ?_
    obtain ⟨a_112, e_112, k_112, H⟩ := H
    obtain ⟨p_112, q_112, H⟩ := H
    refine jz_iald (dk dt_X11_sort 61 rfl) e_112 k_112 p_112 q_112 hw ?_
    obtain ⟨a_113, e_113, k_113, H⟩ := H
    obtain ⟨p_113, q_113, H⟩ := H
    refine jz_iast (dk dt_X11_sort 62 rfl) e_113 k_113 p_113 q_113 hw (hw.1 _ _) (fun w_113 => ?_)
    replace H := H _ rfl
    refine j_iload (dk dt_X11_sort 63 rfl) rfl ?_
    refine j_aload (dk dt_X11_sort 64 rfl) rfl ?_
    refine j_iload (dk dt_X11_sort 65 rfl) rfl ?_
    obtain ⟨a_120, e_120, k_120, H⟩ := H
    obtain ⟨p_120, q_120, H⟩ := H
    refine jz_iald (dk dt_X11_sort 66 rfl) e_120 k_120 p_120 q_120 w_113 ?_
    refine j_iload_n (dk dt_X11_sort 67 rfl) rfl ?_
    refine j_iload (dk dt_X11_sort 68 rfl) rfl ?_
    refine jz_iadd (dk dt_X11_sort 69 rfl) ?_
    refine jz_icmp_eq 132 (dk dt_X11_sort 70 rfl) (by decide) (w_113.1 _ _) (r32_w _) H (fun H => ?_) (fun H => ?_)
    · refine j_iconst (v := Int32.ofInt 0) (dk dt_X11_sort 73 rfl) (by decide) ?_
      exact j_el (T_X11_sort_133 r_x2 r_x8 r_x7 (by decide) w_113  hl he0 H) (And.intro rfl (And.intro rfl (And.intro rfl (And.intro rfl (And.intro rfl trivial)))))
    · refine j_iconst (v := Int32.ofInt 1) (dk dt_X11_sort 71 rfl) (by decide) ?_
      refine j_goto 133 (dk dt_X11_sort 72 rfl) (by decide) ?_
      exact j_el (T_X11_sort_133 r_x2 r_x8 r_x7 (by decide) w_113  hl he0 H) (And.intro rfl (And.intro rfl (And.intro rfl (And.intro rfl (And.intro rfl trivial)))))
def F_X11_sort_82  (t0 : Nat) (x2 : Int) (x5 : Option Nat) (x6 : Option Nat) (x7 : Int) (x8 : Int) (z : Z) (c : Nat) (s : Nat) (P : Int → Z → Prop) (X : Nat → Z → Prop) : Prop :=
  lp (S := Int × Int × Z) (E := (Int × Z)) (fun q P_ => L_X11_sort_82 t0 x2 x5 x6 q.1 q.2.1 q.2.2 c s P_) (x7, x8, z) (fun e => match e with | (x7, z) => (zK z t0 = 12 ∧ (∃ a_150, zO z t0 11 = some a_150 ∧ zK z a_150 = 7 ∧ (∃ c_150 s_150, c_150 ≤ c ∧ s_150 ≤ s ∧ F_X6_shapedAlong a_150 0 x6 z c_150 s_150 (fun x_150 z_150 => (zK z_150 t0 = 12 ∧ F_X11_step t0 x_150 z_150 (fun z_153 => P x7 z_153)))))))
theorem T_X11_sort_82  {t0 : Nat} {x2 : Int} {x5 : Option Nat} {x6 : Option Nat} {x7 : Int} {x8 : Int} {z : Z} {c : Nat} {s : Nat} {P : Int → Z → Prop} {X : Nat → Z → Prop} (r_x2 : R32 x2) (r_x7 : R32 x7) (r_x8 : R32 x8) (hw : Wz z)   (H : F_X11_sort_82 t0 x2 x5 x6 x7 x8 z c s P X) : J mX11_sort 13 c s (QX (QZI P) X) 82 [some (vr (some t0)), none, some (ii (x2)), none, none, some (vr (x5)), some (vr (x6)), some (ii (x7)), some (ii (x8))] [] (cz z) := by
  unfold F_X11_sort_82 at H
  refine lp_J (G := fun q => Wz (q.2.2) → R32 (q.1) → R32 (q.2.1) → J mX11_sort 13 c s (QX (QZI P) X) 82 [some (vr (some t0)), none, some (ii (x2)), none, none, some (vr (x5)), some (vr (x6)), some (ii ((q.1))), some (ii ((q.2.1)))] [] (cz (q.2.2))) (fun q P_ hl_ he_ Hb => ?_) (x7, x8, z) H hw r_x7 r_x8
  obtain ⟨x7, x8, z⟩ := q
  intro hw r_x7 r_x8
  refine U_X11_sort_82 (P := P_) r_x2 r_x7 r_x8 hw  (fun x7 x8 z Hp hw r_x7 r_x8 => hl_ (x7, x8, z) Hp hw r_x7 r_x8) ?_ Hb
  · intro x7 z Hp hw r_x7
    have H := he_ _ Hp
    refine j_aload_n (dk dt_X11_sort 78 rfl) rfl ?_
    refine j_aload_n (dk dt_X11_sort 79 rfl) rfl ?_
    obtain ⟨k_144, H⟩ := H
    refine jz_getO (kz := 11) (dk dt_X11_sort 80 rfl) fl_X11_104 rfl rfl rfl k_144 ?_
    refine j_iconst (v := Int32.ofInt 0) (dk dt_X11_sort 81 rfl) (by decide) ?_
    refine j_aload (dk dt_X11_sort 82 rfl) rfl ?_
    obtain ⟨a_150, e_150, k_150, H⟩ := H
    obtain ⟨c_150, s_150, hc_150, hs_150, H⟩ := H
    refine jz_callV2 (dk dt_X11_sort 83 rfl) vl_X11_177 e_150 (T_X6_shapedAlong (by decide) hw H) k_150 rfl (by decide) hc_150 hs_150 (Nat.le_of_ble_eq_true rfl) (fun v_150 h_150 P_150 => ?_)
    obtain ⟨x_150, z_150, rfl, rfl, w_150, H⟩ := P_150
    dsimp only [rs]
    obtain ⟨k_153, H⟩ := H
    refine jz_callV1 (dk dt_X11_sort 84 rfl) vl_X11_145 rfl (T_X11_step w_150 H) k_153 rfl (by decide) (Nat.zero_le _) (Nat.zero_le _) (Nat.le_of_ble_eq_true rfl) (fun v_153 h_153 P_153 => ?_)
    obtain ⟨z_153, rfl, rfl, w_153, H⟩ := P_153
    dsimp only [rs]
    refine j_iload (dk dt_X11_sort 85 rfl) rfl ?_
    exact j_ireturn (dk dt_X11_sort 86 rfl) rfl rfl ⟨_, _, rfl, r_x7, rfl, w_153, H⟩
def F_X11_sort  (t0 : Nat) (x1 : Int) (x2 : Int) (x3 : Int) (x4 : Int) (z : Z) (c : Nat) (s : Nat) (P : Int → Z → Prop) (X : Nat → Z → Prop) : Prop :=
  (zK z t0 = 12 ∧ (∃ a_6, zO z t0 11 = some a_6 ∧ zK z a_6 = 7 ∧ F_X6_has a_6 x2 x1 z (fun x_6 => (if x_6 = 0 then F_X11_sort_24 z c s P X else F_X6_has a_6 x3 x1 z (fun x_18 => (if x_18 = 0 then F_X11_sort_24 z c s P X else (if x2 ≤ x3 then (∃ c_47 s_47, c_47 ≤ c ∧ s_47 ≤ s ∧ F_X11_ready t0 (-1) z c_47 s_47 (fun z_47 => (zK z_47 t0 = 12 ∧ (∃ c_56 s_56, c_56 ≤ c - c_47 ∧ s_56 ≤ s - s_47 ∧ F_X11_placesInOrder t0 x1 x2 x3 x4 z_47 c_56 s_56 (fun x_56 z_56 => (zK z_56 t0 = 12 ∧ (∃ a_65, zO z_56 t0 11 = some a_65 ∧ zK z_56 a_65 = 7 ∧ (∃ a_68, zO z_56 a_65 0 = some a_68 ∧ zK z_56 a_68 = 15 ∧ (1 ≤ (c - c_47) - c_56 ∧ Int.toNat (zN z_56 a_68) ≤ (s - s_47) - s_56 ∧ ∀ b_68, zK z_56 b_68 = 0 → (∀ z_68, z_68 = clZ z_56 b_68 a_68 → F_X11_sort_82 t0 x2 x_56 (some b_68) 0 0 z_68 (((c - c_47) - c_56) - 1) (((s - s_47) - s_56) - Int.toNat (zN z_56 a_68)) P X)))))))))) else (1 ≤ c ∧ 6 ≤ s ∧ X 1 z))))))))
theorem T_X11_sort  {t0 : Nat} {x1 : Int} {x2 : Int} {x3 : Int} {x4 : Int} {z : Z} {c : Nat} {s : Nat} {P : Int → Z → Prop} {X : Nat → Z → Prop} (r_x1 : R32 x1) (r_x2 : R32 x2) (r_x3 : R32 x3) (r_x4 : R32 x4) (hw : Wz z)  (H : F_X11_sort t0 x1 x2 x3 x4 z c s P X) : ConX mX11_sort 13 c s [vr (some t0), ii (x1), ii (x2), ii (x3), ii (x4)] (cz z) (QX (QZI P) X) := by
  refine con_ofX rfl (Nat.le_of_ble_eq_true rfl) (by decide) (by decide) ?_
  show J mX11_sort 13 c s _ 0 [some (vr (some t0)), some (ii (x1)), some (ii (x2)), some (ii (x3)), some (ii (x4)), none, none, none, none] [] (cz z)
  unfold F_X11_sort at H
  refine j_aload_n (dk dt_X11_sort 0 rfl) rfl ?_
  obtain ⟨k_1, H⟩ := H
  refine jz_getO (kz := 11) (dk dt_X11_sort 1 rfl) fl_X11_104 rfl rfl rfl k_1 ?_
  refine j_iload_n (dk dt_X11_sort 2 rfl) rfl ?_
  refine j_iload_n (dk dt_X11_sort 3 rfl) rfl ?_
  obtain ⟨a_6, e_6, k_6, H⟩ := H
  refine jz_callV2 (dk dt_X11_sort 4 rfl) vl_X11_113 e_6 (T_X6_has r_x2 r_x1 hw H) k_6 rfl (by decide) (Nat.zero_le _) (Nat.zero_le _) (Nat.le_of_ble_eq_true rfl) (fun v_6 h_6 P_6 => ?_)
  obtain ⟨x_6, rfl, r_6, rfl, H⟩ := P_6
  dsimp only [rs]
  refine jz_if_eq 24 (dk dt_X11_sort 5 rfl) (by decide) r_6 H (fun H => ?_) (fun H => ?_)
  · exact j_el (T_X11_sort_24  hw   H) trivial
  · refine j_aload_n (dk dt_X11_sort 6 rfl) rfl ?_
    refine jz_getO (kz := 11) (dk dt_X11_sort 7 rfl) fl_X11_104 rfl rfl rfl k_1 ?_
    refine j_iload_n (dk dt_X11_sort 8 rfl) rfl ?_
    refine j_iload_n (dk dt_X11_sort 9 rfl) rfl ?_
    refine jz_callV2 (dk dt_X11_sort 10 rfl) vl_X11_113 e_6 (T_X6_has r_x3 r_x1 hw H) k_6 rfl (by decide) (Nat.zero_le _) (Nat.zero_le _) (Nat.le_of_ble_eq_true rfl) (fun v_18 h_18 P_18 => ?_)
    obtain ⟨x_18, rfl, r_18, rfl, H⟩ := P_18
    dsimp only [rs]
    refine jz_if_ne 32 (dk dt_X11_sort 11 rfl) (by decide) r_18 H (fun H => ?_) (fun H => ?_)
    · exact j_el (T_X11_sort_24  hw   H) trivial
    · refine j_iload_n (dk dt_X11_sort 16 rfl) rfl ?_
      refine j_iload_n (dk dt_X11_sort 17 rfl) rfl ?_
      refine jz_icmp_ge 45 (dk dt_X11_sort 18 rfl) (by decide) r_x3 r_x2 H (fun H => ?_) (fun H => ?_)
      · refine j_aload_n (dk dt_X11_sort 23 rfl) rfl ?_
        refine j_iconst (v := Int32.ofInt (-1)) (dk dt_X11_sort 24 rfl) (by decide) ?_
        obtain ⟨c_47, s_47, hc_47, hs_47, H⟩ := H
        refine jz_callV1 (dk dt_X11_sort 25 rfl) vl_X11_208 rfl (T_X11_ready (by decide) hw H) k_1 rfl (by decide) hc_47 hs_47 (Nat.le_of_ble_eq_true rfl) (fun v_47 h_47 P_47 => ?_)
        obtain ⟨z_47, rfl, rfl, w_47, H⟩ := P_47
        dsimp only [rs]
        refine j_aload_n (dk dt_X11_sort 26 rfl) rfl ?_
        refine j_iload_n (dk dt_X11_sort 27 rfl) rfl ?_
        refine j_iload_n (dk dt_X11_sort 28 rfl) rfl ?_
        refine j_iload_n (dk dt_X11_sort 29 rfl) rfl ?_
        refine j_iload (dk dt_X11_sort 30 rfl) rfl ?_
        obtain ⟨k_56, H⟩ := H
        obtain ⟨c_56, s_56, hc_56, hs_56, H⟩ := H
        refine jz_callV4 (dk dt_X11_sort 31 rfl) vl_X11_211 rfl (T_X11_placesInOrder r_x1 r_x2 r_x3 r_x4 w_47 H) k_56 rfl (by decide) hc_56 hs_56 (Nat.le_of_ble_eq_true rfl) (fun v_56 h_56 P_56 => ?_)
        obtain ⟨x_56, z_56, rfl, rfl, w_56, H⟩ := P_56
        dsimp only [rs]
        refine j_astore (dk dt_X11_sort 32 rfl) (by decide) ?_
        refine j_aload_n (dk dt_X11_sort 33 rfl) rfl ?_
        obtain ⟨k_62, H⟩ := H
        refine jz_getO (kz := 11) (dk dt_X11_sort 34 rfl) fl_X11_104 rfl rfl rfl k_62 ?_
        obtain ⟨a_65, e_65, k_65, H⟩ := H
        refine jz_getO (kz := 0) (dk dt_X11_sort 35 rfl) fl_X11_190 rfl rfl e_65 k_65 ?_
        obtain ⟨a_68, e_68, k_68, H⟩ := H
        obtain ⟨hc_68, hs_68, H⟩ := H
        refine jz_clone (dk dt_X11_sort 36 rfl) cn_X11_215 e_68 k_68 hc_68 hs_68 (by decide) (Nat.le_of_ble_eq_true rfl) w_56 (fun b_68 e_68 w_68 => ?_)
        replace H := H b_68 e_68
        replace H := H _ rfl
        refine jz_castI (dk dt_X11_sort 37 rfl) cc_X11_216 rfl (zK_cl) ?_
        refine j_astore (dk dt_X11_sort 38 rfl) (by decide) ?_
        refine j_iconst (v := Int32.ofInt 0) (dk dt_X11_sort 39 rfl) (by decide) ?_
        refine j_istore (dk dt_X11_sort 40 rfl) (by decide) ?_
        refine j_iconst (v := Int32.ofInt 0) (dk dt_X11_sort 41 rfl) (by decide) ?_
        refine j_istore (dk dt_X11_sort 42 rfl) (by decide) ?_
        exact j_el (T_X11_sort_82 r_x2 (by decide) (by decide) w_68   H) (And.intro rfl (And.intro rfl (And.intro rfl (And.intro rfl (And.intro rfl (And.intro rfl trivial))))))
      · obtain ⟨hc_, hs_, H⟩ := H
        exact j_throw (E := "java/lang/IllegalArgumentException") ⟨127, 129, by decide, (dk dt_X11_sort 19 rfl), (dk dt_X11_sort 20 rfl), (dk dt_X11_sort 21 rfl), (dk dt_X11_sort 22 rfl)⟩ hc_ hs_ (Nat.le_of_ble_eq_true rfl) ⟨1, _, rfl, rfl, hw, H⟩
def F_X11_total_128  (s0 : Int) (z : Z) (P : Int → Prop) : Prop :=
  P s0
theorem T_X11_total_128  {s0 : Int} {z : Z} {P : Int → Prop} (r_s0 : R32 s0) (hw : Wz z)   (H : F_X11_total_128 s0 z P) : J mX11_total 6 0 0 (nx (QPI (cz z) P)) 128 [none, none] [ii (s0)] (cz z) := by
  unfold F_X11_total_128 at H
  exact j_ireturn (dk dt_X11_total 40 rfl) rfl rfl ⟨_, rfl, r_s0, rfl, H⟩
def F_X11_total_152  (s0 : Int) (z : Z) (P : Int → Prop) : Prop :=
  P s0
theorem T_X11_total_152  {s0 : Int} {z : Z} {P : Int → Prop} (r_s0 : R32 s0) (hw : Wz z)   (H : F_X11_total_152 s0 z P) : J mX11_total 6 0 0 (nx (QPI (cz z) P)) 152 [none, none] [ii (s0)] (cz z) := by
  unfold F_X11_total_152 at H
  exact j_ireturn (dk dt_X11_total 54 rfl) rfl rfl ⟨_, rfl, r_s0, rfl, H⟩
def F_X11_total  (t0 : Nat) (x1 : Int) (z : Z) (P : Int → Prop) : Prop :=
  (if x1 = 0 then (zK z t0 = 12 ∧ (∃ a_60, zO z t0 2 = some a_60 ∧ zK z a_60 = 3 ∧ P (zI z a_60 4))) else (if x1 = 1 then (zK z t0 = 12 ∧ P (zI z t0 12)) else (if x1 = 2 then (zK z t0 = 12 ∧ F_X11_head t0 z (fun x_70 => P x_70)) else (if x1 = 3 then (zK z t0 = 12 ∧ (∃ a_78, zO z t0 4 = some a_78 ∧ zK z a_78 = 4 ∧ F_X3_unsettled a_78 z (fun x_78 => P x_78))) else (if x1 = 4 then (zK z t0 = 12 ∧ (∃ a_86, zO z t0 5 = some a_86 ∧ zK z a_86 = 8 ∧ P (zI z a_86 2))) else (if x1 = 5 then (zK z t0 = 12 ∧ (∃ a_94, zO z t0 5 = some a_94 ∧ zK z a_94 = 8 ∧ P (zI z a_94 3))) else (if x1 = 6 then (zK z t0 = 12 ∧ P (zI z t0 14)) else (if x1 = 7 then (zK z t0 = 12 ∧ (∃ a_107, zO z t0 0 = some a_107 ∧ zK z a_107 = 6 ∧ P (zI z a_107 3))) else (if x1 = 8 then (zK z t0 = 12 ∧ P (zI z t0 15)) else (if x1 = 9 then (zK z t0 = 12 ∧ F_X11_isLikeHead t0 z (fun x_117 => (if x_117 = 0 then F_X11_total_128 0 z P else F_X11_total_128 1 z P))) else F_X11_isBranch (w32 (x1 - 10)) (fun x_133 => (if x_133 = 0 then F_X11_total_152 (-1) z P else (zK z t0 = 12 ∧ (∃ a_147, zO z t0 8 = some a_147 ∧ zK z a_147 = 15 ∧ (0 ≤ w32 (x1 - 10) ∧ w32 (x1 - 10) < zN z a_147 ∧ F_X11_total_152 (zI z a_147 (w32 (x1 - 10))) z P)))))))))))))))
theorem T_X11_total  {t0 : Nat} {x1 : Int} {z : Z} {P : Int → Prop} (r_x1 : R32 x1) (hw : Wz z)  (H : F_X11_total t0 x1 z P) : Con mX11_total 6 0 0 [vr (some t0), ii (x1)] (cz z) (QPI (cz z) P) := by
  refine con_of rfl (Nat.le_of_ble_eq_true rfl) (by decide) ?_
  show J mX11_total 6 0 0 _ 0 [some (vr (some t0)), some (ii (x1))] [] (cz z)
  unfold F_X11_total at H
  refine j_iload_n (dk dt_X11_total 0 rfl) rfl ?_
  by_cases y_1_0 : x1 = 0
  · rw [if_pos y_1_0] at H
    refine jz_tabIn 0 56 (dk dt_X11_total 1 rfl) r_x1 y_1_0 (by decide) (by decide) rfl (by decide) ?_
    refine j_aload_n (dk dt_X11_total 2 rfl) rfl ?_
    obtain ⟨k_57, H⟩ := H
    refine jz_getO (kz := 2) (dk dt_X11_total 3 rfl) fl_X11_26 rfl rfl rfl k_57 ?_
    obtain ⟨a_60, e_60, k_60, H⟩ := H
    refine jz_getI (kz := 4) (dk dt_X11_total 4 rfl) fl_X11_243 rfl rfl e_60 k_60 ?_
    exact j_ireturn (dk dt_X11_total 5 rfl) rfl rfl ⟨_, rfl, (hw.1 _ _), rfl, H⟩
  rw [if_neg y_1_0] at H
  by_cases y_1_1 : x1 = 1
  · rw [if_pos y_1_1] at H
    refine jz_tabIn 1 64 (dk dt_X11_total 1 rfl) r_x1 y_1_1 (by decide) (by decide) rfl (by decide) ?_
    refine j_aload_n (dk dt_X11_total 6 rfl) rfl ?_
    obtain ⟨k_65, H⟩ := H
    refine jz_getI (kz := 12) (dk dt_X11_total 7 rfl) fl_X11_246 rfl rfl rfl k_65 ?_
    exact j_ireturn (dk dt_X11_total 8 rfl) rfl rfl ⟨_, rfl, (hw.1 _ _), rfl, H⟩
  rw [if_neg y_1_1] at H
  by_cases y_1_2 : x1 = 2
  · rw [if_pos y_1_2] at H
    refine jz_tabIn 2 69 (dk dt_X11_total 1 rfl) r_x1 y_1_2 (by decide) (by decide) rfl (by decide) ?_
    refine j_aload_n (dk dt_X11_total 9 rfl) rfl ?_
    obtain ⟨k_70, H⟩ := H
    refine jz_callV0 (dk dt_X11_total 10 rfl) vl_X11_249 rfl (T_X11_head hw H) k_70 rfl (by decide) (Nat.zero_le _) (Nat.zero_le _) (Nat.le_of_ble_eq_true rfl) (fun v_70 h_70 P_70 => ?_)
    obtain ⟨x_70, rfl, r_70, rfl, H⟩ := P_70
    dsimp only [rs]
    exact j_ireturn (dk dt_X11_total 11 rfl) rfl rfl ⟨_, rfl, r_70, rfl, H⟩
  rw [if_neg y_1_2] at H
  by_cases y_1_3 : x1 = 3
  · rw [if_pos y_1_3] at H
    refine jz_tabIn 3 74 (dk dt_X11_total 1 rfl) r_x1 y_1_3 (by decide) (by decide) rfl (by decide) ?_
    refine j_aload_n (dk dt_X11_total 12 rfl) rfl ?_
    obtain ⟨k_75, H⟩ := H
    refine jz_getO (kz := 4) (dk dt_X11_total 13 rfl) fl_X11_46 rfl rfl rfl k_75 ?_
    obtain ⟨a_78, e_78, k_78, H⟩ := H
    refine jz_callV0 (dk dt_X11_total 14 rfl) vl_X11_239 e_78 (T_X3_unsettled hw H) k_78 rfl (by decide) (Nat.zero_le _) (Nat.zero_le _) (Nat.le_of_ble_eq_true rfl) (fun v_78 h_78 P_78 => ?_)
    obtain ⟨x_78, rfl, r_78, rfl, H⟩ := P_78
    dsimp only [rs]
    exact j_ireturn (dk dt_X11_total 15 rfl) rfl rfl ⟨_, rfl, r_78, rfl, H⟩
  rw [if_neg y_1_3] at H
  by_cases y_1_4 : x1 = 4
  · rw [if_pos y_1_4] at H
    refine jz_tabIn 4 82 (dk dt_X11_total 1 rfl) r_x1 y_1_4 (by decide) (by decide) rfl (by decide) ?_
    refine j_aload_n (dk dt_X11_total 16 rfl) rfl ?_
    obtain ⟨k_83, H⟩ := H
    refine jz_getO (kz := 5) (dk dt_X11_total 17 rfl) fl_X11_53 rfl rfl rfl k_83 ?_
    obtain ⟨a_86, e_86, k_86, H⟩ := H
    refine jz_getI (kz := 2) (dk dt_X11_total 18 rfl) fl_X11_220 rfl rfl e_86 k_86 ?_
    exact j_ireturn (dk dt_X11_total 19 rfl) rfl rfl ⟨_, rfl, (hw.1 _ _), rfl, H⟩
  rw [if_neg y_1_4] at H
  by_cases y_1_5 : x1 = 5
  · rw [if_pos y_1_5] at H
    refine jz_tabIn 5 90 (dk dt_X11_total 1 rfl) r_x1 y_1_5 (by decide) (by decide) rfl (by decide) ?_
    refine j_aload_n (dk dt_X11_total 20 rfl) rfl ?_
    obtain ⟨k_91, H⟩ := H
    refine jz_getO (kz := 5) (dk dt_X11_total 21 rfl) fl_X11_53 rfl rfl rfl k_91 ?_
    obtain ⟨a_94, e_94, k_94, H⟩ := H
    refine jz_getI (kz := 3) (dk dt_X11_total 22 rfl) fl_X11_233 rfl rfl e_94 k_94 ?_
    exact j_ireturn (dk dt_X11_total 23 rfl) rfl rfl ⟨_, rfl, (hw.1 _ _), rfl, H⟩
  rw [if_neg y_1_5] at H
  by_cases y_1_6 : x1 = 6
  · rw [if_pos y_1_6] at H
    refine jz_tabIn 6 98 (dk dt_X11_total 1 rfl) r_x1 y_1_6 (by decide) (by decide) rfl (by decide) ?_
    refine j_aload_n (dk dt_X11_total 24 rfl) rfl ?_
    obtain ⟨k_99, H⟩ := H
    refine jz_getI (kz := 14) (dk dt_X11_total 25 rfl) fl_X11_135 rfl rfl rfl k_99 ?_
    exact j_ireturn (dk dt_X11_total 26 rfl) rfl rfl ⟨_, rfl, (hw.1 _ _), rfl, H⟩
  rw [if_neg y_1_6] at H
  by_cases y_1_7 : x1 = 7
  · rw [if_pos y_1_7] at H
    refine jz_tabIn 7 103 (dk dt_X11_total 1 rfl) r_x1 y_1_7 (by decide) (by decide) rfl (by decide) ?_
    refine j_aload_n (dk dt_X11_total 27 rfl) rfl ?_
    obtain ⟨k_104, H⟩ := H
    refine jz_getO (kz := 0) (dk dt_X11_total 28 rfl) fl_X11_10 rfl rfl rfl k_104 ?_
    obtain ⟨a_107, e_107, k_107, H⟩ := H
    refine jz_getI (kz := 3) (dk dt_X11_total 29 rfl) fl_X11_108 rfl rfl e_107 k_107 ?_
    exact j_ireturn (dk dt_X11_total 30 rfl) rfl rfl ⟨_, rfl, (hw.1 _ _), rfl, H⟩
  rw [if_neg y_1_7] at H
  by_cases y_1_8 : x1 = 8
  · rw [if_pos y_1_8] at H
    refine jz_tabIn 8 111 (dk dt_X11_total 1 rfl) r_x1 y_1_8 (by decide) (by decide) rfl (by decide) ?_
    refine j_aload_n (dk dt_X11_total 31 rfl) rfl ?_
    obtain ⟨k_112, H⟩ := H
    refine jz_getI (kz := 15) (dk dt_X11_total 32 rfl) fl_X11_272 rfl rfl rfl k_112 ?_
    exact j_ireturn (dk dt_X11_total 33 rfl) rfl rfl ⟨_, rfl, (hw.1 _ _), rfl, H⟩
  rw [if_neg y_1_8] at H
  by_cases y_1_9 : x1 = 9
  · rw [if_pos y_1_9] at H
    refine jz_tabIn 9 116 (dk dt_X11_total 1 rfl) r_x1 y_1_9 (by decide) (by decide) rfl (by decide) ?_
    refine j_aload_n (dk dt_X11_total 34 rfl) rfl ?_
    obtain ⟨k_117, H⟩ := H
    refine jz_callV0 (dk dt_X11_total 35 rfl) vl_X11_260 rfl (T_X11_isLikeHead hw H) k_117 rfl (by decide) (Nat.zero_le _) (Nat.zero_le _) (Nat.le_of_ble_eq_true rfl) (fun v_117 h_117 P_117 => ?_)
    obtain ⟨x_117, rfl, r_117, rfl, H⟩ := P_117
    dsimp only [rs]
    refine jz_if_eq 127 (dk dt_X11_total 36 rfl) (by decide) r_117 H (fun H => ?_) (fun H => ?_)
    · refine j_iconst (v := Int32.ofInt 0) (dk dt_X11_total 39 rfl) (by decide) ?_
      exact j_el (T_X11_total_128 (by decide) hw   H) trivial
    · refine j_iconst (v := Int32.ofInt 1) (dk dt_X11_total 37 rfl) (by decide) ?_
      refine j_goto 128 (dk dt_X11_total 38 rfl) (by decide) ?_
      exact j_el (T_X11_total_128 (by decide) hw   H) trivial
  rw [if_neg y_1_9] at H
  refine jz_tabOut 129 (dk dt_X11_total 1 rfl) r_x1 (by omega) (by decide) ?_
  refine j_iload_n (dk dt_X11_total 41 rfl) rfl ?_
  refine j_bipush (v := Int32.ofInt 10) (dk dt_X11_total 42 rfl) (by decide) ?_
  refine jz_isub (dk dt_X11_total 43 rfl) ?_
  refine j_callS1 (dk dt_X11_total 44 rfl) sl_X11_253 (T_X11_isBranch (r32_w _) H) rfl (by decide) (Nat.zero_le _) (Nat.zero_le _) (Nat.le_of_ble_eq_true rfl) (fun v_133 h_133 P_133 => ?_)
  obtain ⟨x_133, rfl, r_133, rfl, H⟩ := P_133
  dsimp only [rs]
  refine jz_if_eq 151 (dk dt_X11_total 45 rfl) (by decide) r_133 H (fun H => ?_) (fun H => ?_)
  · refine j_iconst (v := Int32.ofInt (-1)) (dk dt_X11_total 53 rfl) (by decide) ?_
    exact j_el (T_X11_total_152 (by decide) hw   H) trivial
  · refine j_aload_n (dk dt_X11_total 46 rfl) rfl ?_
    obtain ⟨k_140, H⟩ := H
    refine jz_getO (kz := 8) (dk dt_X11_total 47 rfl) fl_X11_70 rfl rfl rfl k_140 ?_
    refine j_iload_n (dk dt_X11_total 48 rfl) rfl ?_
    refine j_bipush (v := Int32.ofInt 10) (dk dt_X11_total 49 rfl) (by decide) ?_
    refine jz_isub (dk dt_X11_total 50 rfl) ?_
    obtain ⟨a_147, e_147, k_147, H⟩ := H
    obtain ⟨p_147, q_147, H⟩ := H
    refine jz_iald (dk dt_X11_total 51 rfl) e_147 k_147 p_147 q_147 hw ?_
    refine j_goto 152 (dk dt_X11_total 52 rfl) (by decide) ?_
    exact j_el (T_X11_total_152 (hw.1 _ _) hw   H) trivial
def F_X7_back_17  (x1 : Option Nat) (z : Z) (P : Option Nat → Z → Prop) : Prop :=
  P x1 z
theorem T_X7_back_17  {x1 : Option Nat} {z : Z} {P : Option Nat → Z → Prop}  (hw : Wz z)   (H : F_X7_back_17 x1 z P) : J mX7_back 1 0 0 (nx (QZA P)) 17 [none, some (vr (x1))] [] (cz z) := by
  unfold F_X7_back_17 at H
  refine j_aload_n (dk dt_X7_back 8 rfl) rfl ?_
  exact j_areturn (dk dt_X7_back 9 rfl) rfl rfl ⟨_, _, rfl, rfl, hw, H⟩
def F_X7_back  (t0 : Nat) (x1 : Option Nat) (z : Z) (P : Option Nat → Z → Prop) : Prop :=
  (zK z t0 = 8 ∧ (if zI z t0 2 < 1 then F_X7_back_17 x1 z P else (if zI z t0 3 < 40 then (∀ z_26, z_26 = wI z t0 2 (w32 ((zI z t0 2) - 1)) → (∃ a_38, zO z_26 t0 1 = some a_38 ∧ zK z_26 a_38 = 21 ∧ (0 ≤ zI z_26 t0 3 ∧ zI z_26 t0 3 < zN z_26 a_38 ∧ ((∀ v, x1 = some v → zK z_26 v = 7) ∧ (∀ z_38, z_38 = wO z_26 a_38 (zI z_26 t0 3) x1 → (∀ z_46, z_46 = wI z_38 t0 3 (w32 (zI z_38 t0 3 + 1)) → (∃ a_57, zO z_46 t0 0 = some a_57 ∧ zK z_46 a_57 = 21 ∧ (0 ≤ zI z_46 t0 2 ∧ zI z_46 t0 2 < zN z_46 a_57 ∧ P (zO z_46 a_57 (zI z_46 t0 2)) z_46)))))))) else F_X7_back_17 x1 z P)))
theorem T_X7_back  {t0 : Nat} {x1 : Option Nat} {z : Z} {P : Option Nat → Z → Prop}  (hw : Wz z)  (H : F_X7_back t0 x1 z P) : Con mX7_back 1 0 0 [vr (some t0), vr (x1)] (cz z) (QZA P) := by
  refine con_of rfl (Nat.le_of_ble_eq_true rfl) (by decide) ?_
  show J mX7_back 1 0 0 _ 0 [some (vr (some t0)), some (vr (x1))] [] (cz z)
  unfold F_X7_back at H
  refine j_aload_n (dk dt_X7_back 0 rfl) rfl ?_
  obtain ⟨k_1, H⟩ := H
  refine jz_getI (kz := 2) (dk dt_X7_back 1 rfl) fl_X7_20 rfl rfl rfl k_1 ?_
  refine j_iconst (v := Int32.ofInt 1) (dk dt_X7_back 2 rfl) (by decide) ?_
  refine jz_icmp_lt 17 (dk dt_X7_back 3 rfl) (by decide) (hw.1 _ _) (by decide) H (fun H => ?_) (fun H => ?_)
  · exact j_el (T_X7_back_17  hw   H) (And.intro rfl trivial)
  · refine j_aload_n (dk dt_X7_back 4 rfl) rfl ?_
    refine jz_getI (kz := 3) (dk dt_X7_back 5 rfl) fl_X7_24 rfl rfl rfl k_1 ?_
    refine j_bipush (v := Int32.ofInt 40) (dk dt_X7_back 6 rfl) (by decide) ?_
    refine jz_icmp_lt 19 (dk dt_X7_back 7 rfl) (by decide) (hw.1 _ _) (by decide) H (fun H => ?_) (fun H => ?_)
    · refine j_aload_n (dk dt_X7_back 10 rfl) rfl ?_
      refine j_dup (dk dt_X7_back 11 rfl) rfl ?_
      refine jz_getI (kz := 2) (dk dt_X7_back 12 rfl) fl_X7_20 rfl rfl rfl k_1 ?_
      refine j_iconst (v := Int32.ofInt 1) (dk dt_X7_back 13 rfl) (by decide) ?_
      refine jz_isub (dk dt_X7_back 14 rfl) ?_
      refine jz_putI (kz := 2) (dk dt_X7_back 15 rfl) fl_X7_20 rfl rfl rfl rfl rfl k_1 hw (r32_w _) (fun w_26 => ?_)
      replace H := H _ rfl
      refine j_aload_n (dk dt_X7_back 16 rfl) rfl ?_
      refine jz_getO (kz := 1) (dk dt_X7_back 17 rfl) fl_X7_17 rfl rfl rfl k_1 ?_
      refine j_aload_n (dk dt_X7_back 18 rfl) rfl ?_
      refine jz_getI (kz := 3) (dk dt_X7_back 19 rfl) fl_X7_24 rfl rfl rfl k_1 ?_
      refine j_aload_n (dk dt_X7_back 20 rfl) rfl ?_
      obtain ⟨a_38, e_38, k_38, H⟩ := H
      obtain ⟨p_38, q_38, H⟩ := H
      obtain ⟨v_38, H⟩ := H
      refine jz_aast (t := 7) (dk dt_X7_back 21 rfl) e_38 k_38 (by decide) (by decide) p_38 q_38 w_26 v_38 (fun w_38 => ?_)
      replace H := H _ rfl
      refine j_aload_n (dk dt_X7_back 22 rfl) rfl ?_
      refine j_dup (dk dt_X7_back 23 rfl) rfl ?_
      refine jz_getI (kz := 3) (dk dt_X7_back 24 rfl) fl_X7_24 rfl rfl rfl k_1 ?_
      refine j_iconst (v := Int32.ofInt 1) (dk dt_X7_back 25 rfl) (by decide) ?_
      refine jz_iadd (dk dt_X7_back 26 rfl) ?_
      refine jz_putI (kz := 3) (dk dt_X7_back 27 rfl) fl_X7_24 rfl rfl rfl rfl rfl k_1 w_38 (r32_w _) (fun w_46 => ?_)
      replace H := H _ rfl
      refine j_aload_n (dk dt_X7_back 28 rfl) rfl ?_
      refine jz_getO (kz := 0) (dk dt_X7_back 29 rfl) fl_X7_11 rfl rfl rfl k_1 ?_
      refine j_aload_n (dk dt_X7_back 30 rfl) rfl ?_
      refine jz_getI (kz := 2) (dk dt_X7_back 31 rfl) fl_X7_20 rfl rfl rfl k_1 ?_
      obtain ⟨a_57, e_57, k_57, H⟩ := H
      obtain ⟨p_57, q_57, H⟩ := H
      refine jz_aald (t := 7) (dk dt_X7_back 32 rfl) e_57 k_57 (by decide) (by decide) p_57 q_57 w_46 ?_
      exact j_areturn (dk dt_X7_back 33 rfl) rfl rfl ⟨_, _, rfl, rfl, w_46, H⟩
    · exact j_el (T_X7_back_17  hw   H) (And.intro rfl trivial)
def F_X11_undo  (t0 : Nat) (z : Z) (c : Nat) (s : Nat) (P : Int → Z → Prop) (X : Nat → Z → Prop) : Prop :=
  (zK z t0 = 12 ∧ (∃ a_4, zO z t0 5 = some a_4 ∧ zK z a_4 = 8 ∧ (if zI z a_4 2 = 0 then (1 ≤ c ∧ 6 ≤ s ∧ X 4 z) else F_X7_back a_4 (zO z t0 11) z (fun x_27 z_27 => (zK z_27 t0 = 12 ∧ F_X11_show t0 x_27 z_27 (fun z_30 => (zK z_30 t0 = 12 ∧ (∃ a_37, zO z_30 t0 5 = some a_37 ∧ zK z_30 a_37 = 8 ∧ P (zI z_30 a_37 2) z_30))))))))
theorem T_X11_undo  {t0 : Nat} {z : Z} {c : Nat} {s : Nat} {P : Int → Z → Prop} {X : Nat → Z → Prop}  (hw : Wz z)  (H : F_X11_undo t0 z c s P X) : ConX mX11_undo 6 c s [vr (some t0)] (cz z) (QX (QZI P) X) := by
  refine con_ofX rfl (Nat.le_of_ble_eq_true rfl) (by decide) (by decide) ?_
  show J mX11_undo 6 c s _ 0 [some (vr (some t0))] [] (cz z)
  unfold F_X11_undo at H
  refine j_aload_n (dk dt_X11_undo 0 rfl) rfl ?_
  obtain ⟨k_1, H⟩ := H
  refine jz_getO (kz := 5) (dk dt_X11_undo 1 rfl) fl_X11_53 rfl rfl rfl k_1 ?_
  obtain ⟨a_4, e_4, k_4, H⟩ := H
  refine jz_getI (kz := 2) (dk dt_X11_undo 2 rfl) fl_X11_220 rfl rfl e_4 k_4 ?_
  refine jz_if_ne 18 (dk dt_X11_undo 3 rfl) (by decide) (hw.1 _ _) H (fun H => ?_) (fun H => ?_)
  · obtain ⟨hc_, hs_, H⟩ := H
    exact j_throw (E := "java/util/NoSuchElementException") ⟨223, 225, by decide, (dk dt_X11_undo 4 rfl), (dk dt_X11_undo 5 rfl), (dk dt_X11_undo 6 rfl), (dk dt_X11_undo 7 rfl)⟩ hc_ hs_ (Nat.le_of_ble_eq_true rfl) ⟨4, _, rfl, rfl, hw, H⟩
  · refine j_aload_n (dk dt_X11_undo 8 rfl) rfl ?_
    refine j_aload_n (dk dt_X11_undo 9 rfl) rfl ?_
    refine jz_getO (kz := 5) (dk dt_X11_undo 10 rfl) fl_X11_53 rfl rfl rfl k_1 ?_
    refine j_aload_n (dk dt_X11_undo 11 rfl) rfl ?_
    refine jz_getO (kz := 11) (dk dt_X11_undo 12 rfl) fl_X11_104 rfl rfl rfl k_1 ?_
    refine jz_callV1 (dk dt_X11_undo 13 rfl) vl_X11_226 e_4 (T_X7_back hw H) k_4 rfl (by decide) (Nat.zero_le _) (Nat.zero_le _) (Nat.le_of_ble_eq_true rfl) (fun v_27 h_27 P_27 => ?_)
    obtain ⟨x_27, z_27, rfl, rfl, w_27, H⟩ := P_27
    dsimp only [rs]
    obtain ⟨k_30, H⟩ := H
    refine jz_callV1 (dk dt_X11_undo 14 rfl) vl_X11_230 rfl (T_X11_show w_27 H) k_30 rfl (by decide) (Nat.zero_le _) (Nat.zero_le _) (Nat.le_of_ble_eq_true rfl) (fun v_30 h_30 P_30 => ?_)
    obtain ⟨z_30, rfl, rfl, w_30, H⟩ := P_30
    dsimp only [rs]
    refine j_aload_n (dk dt_X11_undo 15 rfl) rfl ?_
    obtain ⟨k_34, H⟩ := H
    refine jz_getO (kz := 5) (dk dt_X11_undo 16 rfl) fl_X11_53 rfl rfl rfl k_34 ?_
    obtain ⟨a_37, e_37, k_37, H⟩ := H
    refine jz_getI (kz := 2) (dk dt_X11_undo 17 rfl) fl_X11_220 rfl rfl e_37 k_37 ?_
    exact j_ireturn (dk dt_X11_undo 18 rfl) rfl rfl ⟨_, _, rfl, (w_30.1 _ _), rfl, w_30, H⟩
def F_X11_value  (t0 : Nat) (x1 : Int) (x2 : Int) (x3 : Int) (z : Z) (c : Nat) (s : Nat) (P : Int → Z → Prop) : Prop :=
  (zK z t0 = 12 ∧ F_X11_isCell t0 x1 x2 x3 z (fun x_4 => (if x_4 = 0 then P 0 z else (∃ c_14 s_14, c_14 ≤ c ∧ s_14 ≤ s ∧ F_X11_ready t0 x1 z c_14 s_14 (fun z_14 => (zK z_14 t0 = 12 ∧ F_X11_seen t0 x1 x2 x3 z_14 (fun x_21 => (∃ a_24, x_21 = some a_24 ∧ zK z_14 a_24 = 9 ∧ P (zG z_14 a_24 2) z_14))))))))
theorem T_X11_value  {t0 : Nat} {x1 : Int} {x2 : Int} {x3 : Int} {z : Z} {c : Nat} {s : Nat} {P : Int → Z → Prop} (r_x1 : R32 x1) (r_x2 : R32 x2) (r_x3 : R32 x3) (hw : Wz z)  (H : F_X11_value t0 x1 x2 x3 z c s P) : Con mX11_value 13 c s [vr (some t0), ii (x1), ii (x2), ii (x3)] (cz z) (QZJ P) := by
  refine con_of rfl (Nat.le_of_ble_eq_true rfl) (by decide) ?_
  show J mX11_value 13 c s _ 0 [some (vr (some t0)), some (ii (x1)), some (ii (x2)), some (ii (x3))] [] (cz z)
  unfold F_X11_value at H
  refine j_aload_n (dk dt_X11_value 0 rfl) rfl ?_
  refine j_iload_n (dk dt_X11_value 1 rfl) rfl ?_
  refine j_iload_n (dk dt_X11_value 2 rfl) rfl ?_
  refine j_iload_n (dk dt_X11_value 3 rfl) rfl ?_
  obtain ⟨k_4, H⟩ := H
  refine jz_callV3 (dk dt_X11_value 4 rfl) vl_X11_341 rfl (T_X11_isCell r_x1 r_x2 r_x3 hw H) k_4 rfl (by decide) (Nat.zero_le _) (Nat.zero_le _) (Nat.le_of_ble_eq_true rfl) (fun v_4 h_4 P_4 => ?_)
  obtain ⟨x_4, rfl, r_4, rfl, H⟩ := P_4
  dsimp only [rs]
  refine jz_if_ne 12 (dk dt_X11_value 5 rfl) (by decide) r_4 H (fun H => ?_) (fun H => ?_)
  · refine j_lconst (v := Int64.ofInt 0) (dk dt_X11_value 6 rfl) (by decide) ?_
    exact j_lreturn (dk dt_X11_value 7 rfl) rfl ⟨_, _, rfl, (by decide), rfl, hw, H⟩
  · refine j_aload_n (dk dt_X11_value 8 rfl) rfl ?_
    refine j_iload_n (dk dt_X11_value 9 rfl) rfl ?_
    obtain ⟨c_14, s_14, hc_14, hs_14, H⟩ := H
    refine jz_callV1 (dk dt_X11_value 10 rfl) vl_X11_208 rfl (T_X11_ready r_x1 hw H) k_4 rfl (by decide) hc_14 hs_14 (Nat.le_of_ble_eq_true rfl) (fun v_14 h_14 P_14 => ?_)
    obtain ⟨z_14, rfl, rfl, w_14, H⟩ := P_14
    dsimp only [rs]
    refine j_aload_n (dk dt_X11_value 11 rfl) rfl ?_
    refine j_iload_n (dk dt_X11_value 12 rfl) rfl ?_
    refine j_iload_n (dk dt_X11_value 13 rfl) rfl ?_
    refine j_iload_n (dk dt_X11_value 14 rfl) rfl ?_
    obtain ⟨k_21, H⟩ := H
    refine jz_callV3 (dk dt_X11_value 15 rfl) vl_X11_345 rfl (T_X11_seen r_x1 r_x2 r_x3 w_14 H) k_21 rfl (by decide) (Nat.zero_le _) (Nat.zero_le _) (Nat.le_of_ble_eq_true rfl) (fun v_21 h_21 P_21 => ?_)
    obtain ⟨x_21, rfl, rfl, H⟩ := P_21
    dsimp only [rs]
    obtain ⟨a_24, e_24, k_24, H⟩ := H
    refine jz_getG (kz := 2) (dk dt_X11_value 16 rfl) fl_X11_350 rfl rfl e_24 k_24 ?_
    exact j_lreturn (dk dt_X11_value 17 rfl) rfl ⟨_, _, rfl, (w_14.2.1 _ _), rfl, w_14, H⟩
def F_X11_written  (t0 : Nat) (x1 : Int) (x2 : Int) (x3 : Int) (x4 : Int) (z : Z) (P : Int → Z → Prop) : Prop :=
  (zK z t0 = 12 ∧ F_X11_isCell t0 x1 x2 x3 z (fun x_4 => (if x_4 = 0 then P (-1) z else F_X11_sheetOf t0 x1 z (fun x_14 => (if x_14 = none then P (-1) z else (∃ a_34, x_14 = some a_34 ∧ zK z a_34 = 7 ∧ F_X6_at a_34 x2 x3 z (fun x_34 => (∃ a_43, zO z t0 1 = some a_43 ∧ zK z a_43 = 11 ∧ F_X10_write a_43 x_34 x_14 (zO z t0 2) z (fun z_43 => (zK z_43 t0 = 12 ∧ (∃ a_52, zO z_43 t0 1 = some a_52 ∧ zK z_43 a_52 = 11 ∧ F_X10_letterAt a_52 x4 z_43 (fun x_52 => P x_52 z_43))))))))))))
theorem T_X11_written  {t0 : Nat} {x1 : Int} {x2 : Int} {x3 : Int} {x4 : Int} {z : Z} {P : Int → Z → Prop} (r_x1 : R32 x1) (r_x2 : R32 x2) (r_x3 : R32 x3) (r_x4 : R32 x4) (hw : Wz z)  (H : F_X11_written t0 x1 x2 x3 x4 z P) : Con mX11_written 414 0 0 [vr (some t0), ii (x1), ii (x2), ii (x3), ii (x4)] (cz z) (QZI P) := by
  refine con_of rfl (Nat.le_of_ble_eq_true rfl) (by decide) ?_
  show J mX11_written 414 0 0 _ 0 [some (vr (some t0)), some (ii (x1)), some (ii (x2)), some (ii (x3)), some (ii (x4)), none] [] (cz z)
  unfold F_X11_written at H
  refine j_aload_n (dk dt_X11_written 0 rfl) rfl ?_
  refine j_iload_n (dk dt_X11_written 1 rfl) rfl ?_
  refine j_iload_n (dk dt_X11_written 2 rfl) rfl ?_
  refine j_iload_n (dk dt_X11_written 3 rfl) rfl ?_
  obtain ⟨k_4, H⟩ := H
  refine jz_callV3 (dk dt_X11_written 4 rfl) vl_X11_341 rfl (T_X11_isCell r_x1 r_x2 r_x3 hw H) k_4 rfl (by decide) (Nat.zero_le _) (Nat.zero_le _) (Nat.le_of_ble_eq_true rfl) (fun v_4 h_4 P_4 => ?_)
  obtain ⟨x_4, rfl, r_4, rfl, H⟩ := P_4
  dsimp only [rs]
  refine jz_if_ne 12 (dk dt_X11_written 5 rfl) (by decide) r_4 H (fun H => ?_) (fun H => ?_)
  · refine j_iconst (v := Int32.ofInt (-1)) (dk dt_X11_written 6 rfl) (by decide) ?_
    exact j_ireturn (dk dt_X11_written 7 rfl) rfl rfl ⟨_, _, rfl, (by decide), rfl, hw, H⟩
  · refine j_aload_n (dk dt_X11_written 8 rfl) rfl ?_
    refine j_iload_n (dk dt_X11_written 9 rfl) rfl ?_
    refine jz_callV1 (dk dt_X11_written 10 rfl) vl_X11_312 rfl (T_X11_sheetOf r_x1 hw H) k_4 rfl (by decide) (Nat.zero_le _) (Nat.zero_le _) (Nat.le_of_ble_eq_true rfl) (fun v_14 h_14 P_14 => ?_)
    obtain ⟨x_14, rfl, rfl, H⟩ := P_14
    dsimp only [rs]
    refine j_astore (dk dt_X11_written 11 rfl) (by decide) ?_
    refine j_aload (dk dt_X11_written 12 rfl) rfl ?_
    refine jz_ifnonnull 26 (dk dt_X11_written 13 rfl) (by decide) H (fun H => ?_) (fun H => ?_)
    · refine j_iconst (v := Int32.ofInt (-1)) (dk dt_X11_written 14 rfl) (by decide) ?_
      exact j_ireturn (dk dt_X11_written 15 rfl) rfl rfl ⟨_, _, rfl, (by decide), rfl, hw, H⟩
    · refine j_aload_n (dk dt_X11_written 16 rfl) rfl ?_
      refine jz_getO (kz := 1) (dk dt_X11_written 17 rfl) fl_X11_19 rfl rfl rfl k_4 ?_
      refine j_aload (dk dt_X11_written 18 rfl) rfl ?_
      refine j_iload_n (dk dt_X11_written 19 rfl) rfl ?_
      refine j_iload_n (dk dt_X11_written 20 rfl) rfl ?_
      obtain ⟨a_34, e_34, k_34, H⟩ := H
      refine jz_callV2 (dk dt_X11_written 21 rfl) vl_X11_152 e_34 (T_X6_at r_x2 r_x3 hw H) k_34 rfl (by decide) (Nat.zero_le _) (Nat.zero_le _) (Nat.le_of_ble_eq_true rfl) (fun v_34 h_34 P_34 => ?_)
      obtain ⟨x_34, rfl, rfl, H⟩ := P_34
      dsimp only [rs]
      refine j_aload (dk dt_X11_written 22 rfl) rfl ?_
      refine j_aload_n (dk dt_X11_written 23 rfl) rfl ?_
      refine jz_getO (kz := 2) (dk dt_X11_written 24 rfl) fl_X11_26 rfl rfl rfl k_4 ?_
      obtain ⟨a_43, e_43, k_43, H⟩ := H
      refine jz_callV3 (dk dt_X11_written 25 rfl) vl_X11_358 e_43 (T_X10_write hw H) k_43 rfl (by decide) (Nat.zero_le _) (Nat.zero_le _) (Nat.le_of_ble_eq_true rfl) (fun v_43 h_43 P_43 => ?_)
      obtain ⟨z_43, rfl, rfl, w_43, H⟩ := P_43
      dsimp only [rs]
      refine j_aload_n (dk dt_X11_written 26 rfl) rfl ?_
      obtain ⟨k_47, H⟩ := H
      refine jz_getO (kz := 1) (dk dt_X11_written 27 rfl) fl_X11_19 rfl rfl rfl k_47 ?_
      refine j_iload (dk dt_X11_written 28 rfl) rfl ?_
      obtain ⟨a_52, e_52, k_52, H⟩ := H
      refine jz_callV1 (dk dt_X11_written 29 rfl) vl_X11_362 e_52 (T_X10_letterAt r_x4 w_43 H) k_52 rfl (by decide) (Nat.zero_le _) (Nat.zero_le _) (Nat.le_of_ble_eq_true rfl) (fun v_52 h_52 P_52 => ?_)
      obtain ⟨x_52, rfl, r_52, rfl, H⟩ := P_52
      dsimp only [rs]
      exact j_ireturn (dk dt_X11_written 30 rfl) rfl rfl ⟨_, _, rfl, r_52, rfl, w_43, H⟩
def F_X2_init  (t0 : Nat) (z : Z) (c : Nat) (s : Nat) (P : Z → Prop) : Prop :=
  ((0 : Int) ≤ 40 ∧ 40 < (33554432 : Int) ∧ 1 ≤ c ∧ Int.toNat 40 ≤ s ∧ ∀ a_7, zK z a_7 = 0 → (∀ z_7, z_7 = nZ z a_7 21 40 → (zK z_7 t0 = 3 ∧ (∀ z_10, z_10 = wO z_7 t0 0 (some a_7) → ((0 : Int) ≤ 40 ∧ 40 < (33554432 : Int) ∧ 1 ≤ c - 1 ∧ Int.toNat 40 ≤ s - Int.toNat 40 ∧ ∀ a_16, zK z_10 a_16 = 0 → (∀ z_16, z_16 = nZ z_10 a_16 15 40 → (zK z_16 t0 = 3 ∧ (∀ z_18, z_18 = wO z_16 t0 1 (some a_16) → ((0 : Int) ≤ 40 ∧ 40 < (33554432 : Int) ∧ 1 ≤ (c - 1) - 1 ∧ Int.toNat 40 ≤ (s - Int.toNat 40) - Int.toNat 40 ∧ ∀ a_24, zK z_18 a_24 = 0 → (∀ z_24, z_24 = nZ z_18 a_24 15 40 → (zK z_24 t0 = 3 ∧ (∀ z_26, z_26 = wO z_24 t0 2 (some a_24) → ((0 : Int) ≤ 40 ∧ 40 < (33554432 : Int) ∧ 1 ≤ ((c - 1) - 1) - 1 ∧ Int.toNat 40 ≤ ((s - Int.toNat 40) - Int.toNat 40) - Int.toNat 40 ∧ ∀ a_32, zK z_26 a_32 = 0 → (∀ z_32, z_32 = nZ z_26 a_32 16 40 → (zK z_32 t0 = 3 ∧ (∀ z_34, z_34 = wO z_32 t0 3 (some a_32) → P z_34))))))))))))))))
theorem T_X2_init  {t0 : Nat} {z : Z} {c : Nat} {s : Nat} {P : Z → Prop}  (hw : Wz z)  (H : F_X2_init t0 z c s P) : Con mX2_init 4 c s [vr (some t0)] (cz z) (QZV P) := by
  refine con_of rfl (Nat.le_of_ble_eq_true rfl) (by decide) ?_
  show J mX2_init 4 c s _ 0 [some (vr (some t0))] [] (cz z)
  unfold F_X2_init at H
  refine j_aload_n (dk dt_X2_init 0 rfl) rfl ?_
  refine j_objInit (dk dt_X2_init 1 rfl) ol_X2_3 ob_1 ob_2 (by decide) (Nat.le_of_ble_eq_true rfl) ?_
  refine j_aload_n (dk dt_X2_init 2 rfl) rfl ?_
  refine j_bipush (v := Int32.ofInt 40) (dk dt_X2_init 3 rfl) (by decide) ?_
  obtain ⟨p_7, q_7, hc_7, hs_7, H⟩ := H
  refine jz_newQ (t := 7) (dk dt_X2_init 4 rfl) nl_X2_9 ao_6 (by decide) (fun _ => rfl) p_7 q_7 hc_7 hs_7 hw (fun a_7 e_7 w_7 => ?_)
  replace H := H a_7 e_7
  replace H := H _ rfl
  obtain ⟨k_10, H⟩ := H
  refine jz_putOF (kz := 0) (dk dt_X2_init 5 rfl) fl_X2_11 rfl (fun _ _ q => by cases q; rfl) rfl rfl rfl k_10 w_7 (fun w_10 => ?_)
  replace H := H _ rfl
  refine j_aload_n (dk dt_X2_init 6 rfl) rfl ?_
  refine j_bipush (v := Int32.ofInt 40) (dk dt_X2_init 7 rfl) (by decide) ?_
  obtain ⟨p_16, q_16, hc_16, hs_16, H⟩ := H
  refine jz_newI (dk dt_X2_init 8 rfl) p_16 q_16 hc_16 hs_16 w_10 (fun a_16 e_16 w_16 => ?_)
  replace H := H a_16 e_16
  replace H := H _ rfl
  obtain ⟨k_18, H⟩ := H
  refine jz_putOF (kz := 1) (dk dt_X2_init 9 rfl) fl_X2_17 rfl (fun _ _ q => by cases q; rfl) rfl rfl rfl k_18 w_16 (fun w_18 => ?_)
  replace H := H _ rfl
  refine j_aload_n (dk dt_X2_init 10 rfl) rfl ?_
  refine j_bipush (v := Int32.ofInt 40) (dk dt_X2_init 11 rfl) (by decide) ?_
  obtain ⟨p_24, q_24, hc_24, hs_24, H⟩ := H
  refine jz_newI (dk dt_X2_init 12 rfl) p_24 q_24 hc_24 hs_24 w_18 (fun a_24 e_24 w_24 => ?_)
  replace H := H a_24 e_24
  replace H := H _ rfl
  obtain ⟨k_26, H⟩ := H
  refine jz_putOF (kz := 2) (dk dt_X2_init 13 rfl) fl_X2_21 rfl (fun _ _ q => by cases q; rfl) rfl rfl rfl k_26 w_24 (fun w_26 => ?_)
  replace H := H _ rfl
  refine j_aload_n (dk dt_X2_init 14 rfl) rfl ?_
  refine j_bipush (v := Int32.ofInt 40) (dk dt_X2_init 15 rfl) (by decide) ?_
  obtain ⟨p_32, q_32, hc_32, hs_32, H⟩ := H
  refine jz_newJ (dk dt_X2_init 16 rfl) p_32 q_32 hc_32 hs_32 w_26 (fun a_32 e_32 w_32 => ?_)
  replace H := H a_32 e_32
  replace H := H _ rfl
  obtain ⟨k_34, H⟩ := H
  refine jz_putOF (kz := 3) (dk dt_X2_init 17 rfl) fl_X2_24 rfl (fun _ _ q => by cases q; rfl) rfl rfl rfl k_34 w_32 (fun w_34 => ?_)
  replace H := H _ rfl
  exact j_return (dk dt_X2_init 18 rfl) rfl ⟨_, rfl, rfl, w_34, H⟩
def F_X3_init  (t0 : Nat) (z : Z) (c : Nat) (s : Nat) (P : Z → Prop) : Prop :=
  ((0 : Int) ≤ 362 ∧ 362 < (33554432 : Int) ∧ 1 ≤ c ∧ Int.toNat 362 ≤ s ∧ ∀ a_8, zK z a_8 = 0 → (∀ z_8, z_8 = nZ z a_8 18 362 → (zK z_8 t0 = 4 ∧ (∀ z_11, z_11 = wO z_8 t0 0 (some a_8) → ((0 : Int) ≤ 64 ∧ 64 < (33554432 : Int) ∧ 1 ≤ c - 1 ∧ Int.toNat 64 ≤ s - Int.toNat 362 ∧ ∀ a_17, zK z_11 a_17 = 0 → (∀ z_17, z_17 = nZ z_11 a_17 15 64 → (zK z_17 t0 = 4 ∧ (∀ z_19, z_19 = wO z_17 t0 1 (some a_17) → P z_19))))))))
theorem T_X3_init  {t0 : Nat} {z : Z} {c : Nat} {s : Nat} {P : Z → Prop}  (hw : Wz z)  (H : F_X3_init t0 z c s P) : Con mX3_init 4 c s [vr (some t0)] (cz z) (QZV P) := by
  refine con_of rfl (Nat.le_of_ble_eq_true rfl) (by decide) ?_
  show J mX3_init 4 c s _ 0 [some (vr (some t0))] [] (cz z)
  unfold F_X3_init at H
  refine j_aload_n (dk dt_X3_init 0 rfl) rfl ?_
  refine j_objInit (dk dt_X3_init 1 rfl) ol_X3_3 ob_1 ob_2 (by decide) (Nat.le_of_ble_eq_true rfl) ?_
  refine j_aload_n (dk dt_X3_init 2 rfl) rfl ?_
  refine j_sipush (v := Int32.ofInt 362) (dk dt_X3_init 3 rfl) (by decide) ?_
  obtain ⟨p_8, q_8, hc_8, hs_8, H⟩ := H
  refine jz_newQ (t := 4) (dk dt_X3_init 4 rfl) nl_X3_9 ao_0 (by decide) (fun _ => rfl) p_8 q_8 hc_8 hs_8 hw (fun a_8 e_8 w_8 => ?_)
  replace H := H a_8 e_8
  replace H := H _ rfl
  obtain ⟨k_11, H⟩ := H
  refine jz_putOF (kz := 0) (dk dt_X3_init 5 rfl) fl_X3_11 rfl (fun _ _ q => by cases q; rfl) rfl rfl rfl k_11 w_8 (fun w_11 => ?_)
  replace H := H _ rfl
  refine j_aload_n (dk dt_X3_init 6 rfl) rfl ?_
  refine j_bipush (v := Int32.ofInt 64) (dk dt_X3_init 7 rfl) (by decide) ?_
  obtain ⟨p_17, q_17, hc_17, hs_17, H⟩ := H
  refine jz_newI (dk dt_X3_init 8 rfl) p_17 q_17 hc_17 hs_17 w_11 (fun a_17 e_17 w_17 => ?_)
  replace H := H a_17 e_17
  replace H := H _ rfl
  obtain ⟨k_19, H⟩ := H
  refine jz_putOF (kz := 1) (dk dt_X3_init 9 rfl) fl_X3_17 rfl (fun _ _ q => by cases q; rfl) rfl rfl rfl k_19 w_17 (fun w_19 => ?_)
  replace H := H _ rfl
  exact j_return (dk dt_X3_init 10 rfl) rfl ⟨_, rfl, rfl, w_19, H⟩
def F_X5_init  (t0 : Nat) (z : Z) (c : Nat) (s : Nat) (P : Z → Prop) : Prop :=
  ((0 : Int) ≤ 400 ∧ 400 < (33554432 : Int) ∧ 1 ≤ c ∧ Int.toNat 400 ≤ s ∧ ∀ a_8, zK z a_8 = 0 → (∀ z_8, z_8 = nZ z a_8 14 400 → (zK z_8 t0 = 6 ∧ (∀ z_10, z_10 = wO z_8 t0 0 (some a_8) → ((0 : Int) ≤ 400 ∧ 400 < (33554432 : Int) ∧ 1 ≤ c - 1 ∧ Int.toNat 400 ≤ s - Int.toNat 400 ∧ ∀ a_17, zK z_10 a_17 = 0 → (∀ z_17, z_17 = nZ z_10 a_17 20 400 → (zK z_17 t0 = 6 ∧ (∀ z_20, z_20 = wO z_17 t0 1 (some a_17) → ((0 : Int) ≤ 0 ∧ 0 < (33554432 : Int) ∧ 1 ≤ (c - 1) - 1 ∧ Int.toNat 0 ≤ (s - Int.toNat 400) - Int.toNat 400 ∧ ∀ a_25, zK z_20 a_25 = 0 → (∀ z_25, z_25 = nZ z_20 a_25 20 0 → (zK z_25 t0 = 6 ∧ (∀ z_28, z_28 = wO z_25 t0 2 (some a_25) → P z_28))))))))))))
theorem T_X5_init  {t0 : Nat} {z : Z} {c : Nat} {s : Nat} {P : Z → Prop}  (hw : Wz z)  (H : F_X5_init t0 z c s P) : Con mX5_init 4 c s [vr (some t0)] (cz z) (QZV P) := by
  refine con_of rfl (Nat.le_of_ble_eq_true rfl) (by decide) ?_
  show J mX5_init 4 c s _ 0 [some (vr (some t0))] [] (cz z)
  unfold F_X5_init at H
  refine j_aload_n (dk dt_X5_init 0 rfl) rfl ?_
  refine j_objInit (dk dt_X5_init 1 rfl) ol_X5_3 ob_1 ob_2 (by decide) (Nat.le_of_ble_eq_true rfl) ?_
  refine j_aload_n (dk dt_X5_init 2 rfl) rfl ?_
  refine j_sipush (v := Int32.ofInt 400) (dk dt_X5_init 3 rfl) (by decide) ?_
  obtain ⟨p_8, q_8, hc_8, hs_8, H⟩ := H
  refine jz_newB (dk dt_X5_init 4 rfl) p_8 q_8 hc_8 hs_8 hw (fun a_8 e_8 w_8 => ?_)
  replace H := H a_8 e_8
  replace H := H _ rfl
  obtain ⟨k_10, H⟩ := H
  refine jz_putOF (kz := 0) (dk dt_X5_init 5 rfl) fl_X5_9 rfl (fun _ _ q => by cases q; rfl) rfl rfl rfl k_10 w_8 (fun w_10 => ?_)
  replace H := H _ rfl
  refine j_aload_n (dk dt_X5_init 6 rfl) rfl ?_
  refine j_sipush (v := Int32.ofInt 400) (dk dt_X5_init 7 rfl) (by decide) ?_
  obtain ⟨p_17, q_17, hc_17, hs_17, H⟩ := H
  refine jz_newQ (t := 6) (dk dt_X5_init 8 rfl) nl_X5_15 ao_4 (by decide) (fun _ => rfl) p_17 q_17 hc_17 hs_17 w_10 (fun a_17 e_17 w_17 => ?_)
  replace H := H a_17 e_17
  replace H := H _ rfl
  obtain ⟨k_20, H⟩ := H
  refine jz_putOF (kz := 1) (dk dt_X5_init 9 rfl) fl_X5_17 rfl (fun _ _ q => by cases q; rfl) rfl rfl rfl k_20 w_17 (fun w_20 => ?_)
  replace H := H _ rfl
  refine j_aload_n (dk dt_X5_init 10 rfl) rfl ?_
  refine j_iconst (v := Int32.ofInt 0) (dk dt_X5_init 11 rfl) (by decide) ?_
  obtain ⟨p_25, q_25, hc_25, hs_25, H⟩ := H
  refine jz_newQ (t := 6) (dk dt_X5_init 12 rfl) nl_X5_15 ao_4 (by decide) (fun _ => rfl) p_25 q_25 hc_25 hs_25 w_20 (fun a_25 e_25 w_25 => ?_)
  replace H := H a_25 e_25
  replace H := H _ rfl
  obtain ⟨k_28, H⟩ := H
  refine jz_putOF (kz := 2) (dk dt_X5_init 13 rfl) fl_X5_21 rfl (fun _ _ q => by cases q; rfl) rfl rfl rfl k_28 w_25 (fun w_28 => ?_)
  replace H := H _ rfl
  exact j_return (dk dt_X5_init 14 rfl) rfl ⟨_, rfl, rfl, w_28, H⟩
def F_X7_init  (t0 : Nat) (z : Z) (c : Nat) (s : Nat) (P : Z → Prop) : Prop :=
  ((0 : Int) ≤ 40 ∧ 40 < (33554432 : Int) ∧ 1 ≤ c ∧ Int.toNat 40 ≤ s ∧ ∀ a_7, zK z a_7 = 0 → (∀ z_7, z_7 = nZ z a_7 21 40 → (zK z_7 t0 = 8 ∧ (∀ z_10, z_10 = wO z_7 t0 0 (some a_7) → ((0 : Int) ≤ 40 ∧ 40 < (33554432 : Int) ∧ 1 ≤ c - 1 ∧ Int.toNat 40 ≤ s - Int.toNat 40 ∧ ∀ a_16, zK z_10 a_16 = 0 → (∀ z_16, z_16 = nZ z_10 a_16 21 40 → (zK z_16 t0 = 8 ∧ (∀ z_19, z_19 = wO z_16 t0 1 (some a_16) → P z_19))))))))
theorem T_X7_init  {t0 : Nat} {z : Z} {c : Nat} {s : Nat} {P : Z → Prop}  (hw : Wz z)  (H : F_X7_init t0 z c s P) : Con mX7_init 4 c s [vr (some t0)] (cz z) (QZV P) := by
  refine con_of rfl (Nat.le_of_ble_eq_true rfl) (by decide) ?_
  show J mX7_init 4 c s _ 0 [some (vr (some t0))] [] (cz z)
  unfold F_X7_init at H
  refine j_aload_n (dk dt_X7_init 0 rfl) rfl ?_
  refine j_objInit (dk dt_X7_init 1 rfl) ol_X7_3 ob_1 ob_2 (by decide) (Nat.le_of_ble_eq_true rfl) ?_
  refine j_aload_n (dk dt_X7_init 2 rfl) rfl ?_
  refine j_bipush (v := Int32.ofInt 40) (dk dt_X7_init 3 rfl) (by decide) ?_
  obtain ⟨p_7, q_7, hc_7, hs_7, H⟩ := H
  refine jz_newQ (t := 7) (dk dt_X7_init 4 rfl) nl_X7_9 ao_6 (by decide) (fun _ => rfl) p_7 q_7 hc_7 hs_7 hw (fun a_7 e_7 w_7 => ?_)
  replace H := H a_7 e_7
  replace H := H _ rfl
  obtain ⟨k_10, H⟩ := H
  refine jz_putOF (kz := 0) (dk dt_X7_init 5 rfl) fl_X7_11 rfl (fun _ _ q => by cases q; rfl) rfl rfl rfl k_10 w_7 (fun w_10 => ?_)
  replace H := H _ rfl
  refine j_aload_n (dk dt_X7_init 6 rfl) rfl ?_
  refine j_bipush (v := Int32.ofInt 40) (dk dt_X7_init 7 rfl) (by decide) ?_
  obtain ⟨p_16, q_16, hc_16, hs_16, H⟩ := H
  refine jz_newQ (t := 7) (dk dt_X7_init 8 rfl) nl_X7_9 ao_6 (by decide) (fun _ => rfl) p_16 q_16 hc_16 hs_16 w_10 (fun a_16 e_16 w_16 => ?_)
  replace H := H a_16 e_16
  replace H := H _ rfl
  obtain ⟨k_19, H⟩ := H
  refine jz_putOF (kz := 1) (dk dt_X7_init 9 rfl) fl_X7_17 rfl (fun _ _ q => by cases q; rfl) rfl rfl rfl k_19 w_16 (fun w_19 => ?_)
  replace H := H _ rfl
  exact j_return (dk dt_X7_init 10 rfl) rfl ⟨_, rfl, rfl, w_19, H⟩
def L_X9_init_75  (t0 : Nat) (x2 : Int) (z : Z) (c : Nat) (s : Nat) (P : (Int × Z × Nat × Nat) ⊕ ((Z × Nat × Nat)) → Prop) : Prop :=
  (zK z t0 = 10 ∧ (∃ a_80, zO z t0 1 = some a_80 ∧ zK z a_80 = 22 ∧ (if zN z a_80 ≤ x2 then P (.inr (z, c, s)) else (1 ≤ c ∧ 4 ≤ s ∧ ∀ a_89, zK z a_89 = 0 → (∀ z_89, z_89 = nZ z a_89 9 0 → (∃ c_95 s_95, c_95 ≤ c - 1 ∧ s_95 ≤ s - 4 ∧ F_X8_init a_89 24 z_89 c_95 s_95 (fun z_95 => (∃ a_98, zO z t0 1 = some a_98 ∧ zK z_95 a_98 = 22 ∧ (0 ≤ x2 ∧ x2 < zN z_95 a_98 ∧ ((∀ v, some a_89 = some v → zK z_95 v = 9) ∧ (∀ z_98, z_98 = wO z_95 a_98 x2 (some a_89) → P (.inl (w32 (x2 + 1), z_98, (c - 1) - c_95, (s - 4) - s_95)))))))))))))
theorem U_X9_init_75  {t0 : Nat} {x2 : Int} {z : Z} {c : Nat} {s : Nat} {P : (Int × Z × Nat × Nat) ⊕ ((Z × Nat × Nat)) → Prop} {post : Option Sv ⊕ String → Hp → Prop} (r_x2 : R32 x2) (hw : Wz z)  (hl : ∀ (x2 : Int) (z : Z) (c : Nat) (s : Nat), P (.inl (x2, z, c, s)) → Wz z → R32 x2 → J mX9_init 5 c s post 75 [some (vr (some t0)), none, some (ii (x2))] [] (cz z)) (he0 : ∀ (z : Z) (c : Nat) (s : Nat), P (.inr (z, c, s)) → Wz z → J mX9_init 5 c s post 105 [none, none, none] [] (cz z)) (H : L_X9_init_75 t0 x2 z c s P) : J mX9_init 5 c s post 75 [some (vr (some t0)), none, some (ii (x2))] [] (cz z) := by
  unfold L_X9_init_75 at H
  refine j_iload_n (dk dt_X9_init 37 rfl) rfl ?_
  refine j_aload_n (dk dt_X9_init 38 rfl) rfl ?_
  obtain ⟨k_77, H⟩ := H
  refine jz_getO (kz := 1) (dk dt_X9_init 39 rfl) fl_X9_11 rfl rfl rfl k_77 ?_
  obtain ⟨a_80, e_80, k_80, H⟩ := H
  refine jz_alen (t := 8) (dk dt_X9_init 40 rfl) e_80 k_80 (by decide) hw ?_
  refine jz_icmp_ge 105 (dk dt_X9_init 41 rfl) (by decide) r_x2 (r32_len hw _) H (fun H => ?_) (fun H => ?_)
  · exact j_el (he0 _ _ _ H hw) trivial
  · refine j_aload_n (dk dt_X9_init 42 rfl) rfl ?_
    refine jz_getO (kz := 1) (dk dt_X9_init 43 rfl) fl_X9_11 rfl rfl rfl k_77 ?_
    refine j_iload_n (dk dt_X9_init 44 rfl) rfl ?_
    obtain ⟨hc_89, hs_89, H⟩ := H
    refine jz_new (dk dt_X9_init 45 rfl) cl_8 nl_X9_9 iw_8 zw_8 rfl hc_89 hs_89 hw (fun a_89 e_89 w_89 => ?_)
    replace H := H a_89 e_89
    replace H := H _ rfl
    refine j_dup (dk dt_X9_init 46 rfl) rfl ?_
    refine j_bipush (v := Int32.ofInt 24) (dk dt_X9_init 47 rfl) (by decide) ?_
    obtain ⟨c_95, s_95, hc_95, hs_95, H⟩ := H
    refine jz_callI1 (dk dt_X9_init 48 rfl) il_X9_17 rfl (T_X8_init (by decide) w_89 H) rfl (by decide) hc_95 hs_95 (Nat.le_of_ble_eq_true rfl) (fun v_95 h_95 P_95 => ?_)
    obtain ⟨z_95, rfl, rfl, w_95, H⟩ := P_95
    dsimp only [rs]
    obtain ⟨a_98, e_98, k_98, H⟩ := H
    obtain ⟨p_98, q_98, H⟩ := H
    obtain ⟨v_98, H⟩ := H
    refine jz_aast (t := 8) (dk dt_X9_init 49 rfl) e_98 k_98 (by decide) (by decide) p_98 q_98 w_95 v_98 (fun w_98 => ?_)
    replace H := H _ rfl
    refine jz_iinc (dk dt_X9_init 50 rfl) rfl ?_
    refine j_goto 75 (dk dt_X9_init 51 rfl) (by decide) ?_
    exact j_el (hl _ _ _ _ H w_98 (r32_w _)) (And.intro rfl (And.intro rfl trivial))
def F_X9_init_75  (t0 : Nat) (x2 : Int) (z : Z) (c : Nat) (s : Nat) (P : Z → Prop) : Prop :=
  lp (S := Int × Z × Nat × Nat) (E := (Z × Nat × Nat)) (fun q P_ => L_X9_init_75 t0 q.1 q.2.1 q.2.2.1 q.2.2.2 P_) (x2, z, c, s) (fun e => match e with | (z, c, s) => P z)
theorem T_X9_init_75  {t0 : Nat} {x2 : Int} {z : Z} {c : Nat} {s : Nat} {P : Z → Prop} (r_x2 : R32 x2) (hw : Wz z)   (H : F_X9_init_75 t0 x2 z c s P) : J mX9_init 5 c s (nx (QZV P)) 75 [some (vr (some t0)), none, some (ii (x2))] [] (cz z) := by
  unfold F_X9_init_75 at H
  refine lp_J (G := fun q => Wz (q.2.1) → R32 (q.1) → J mX9_init 5 (q.2.2.1) (q.2.2.2) (nx (QZV P)) 75 [some (vr (some t0)), none, some (ii ((q.1)))] [] (cz (q.2.1))) (fun q P_ hl_ he_ Hb => ?_) (x2, z, c, s) H hw r_x2
  obtain ⟨x2, z, c, s⟩ := q
  intro hw r_x2
  refine U_X9_init_75 (P := P_) r_x2 hw  (fun x2 z c s Hp hw r_x2 => hl_ (x2, z, c, s) Hp hw r_x2) ?_ Hb
  · intro z c s Hp hw
    have H := he_ _ Hp
    exact j_return (dk dt_X9_init 52 rfl) rfl ⟨_, rfl, rfl, hw, H⟩
def F_X9_init  (t0 : Nat) (x1 : Option Nat) (z : Z) (c : Nat) (s : Nat) (P : Z → Prop) : Prop :=
  ((0 : Int) ≤ 60 ∧ 60 < (33554432 : Int) ∧ 1 ≤ c ∧ Int.toNat 60 ≤ s ∧ ∀ a_7, zK z a_7 = 0 → (∀ z_7, z_7 = nZ z a_7 22 60 → (zK z_7 t0 = 10 ∧ (∀ z_10, z_10 = wO z_7 t0 1 (some a_7) → (1 ≤ c - 1 ∧ 4 ≤ s - Int.toNat 60 ∧ ∀ a_14, zK z_10 a_14 = 0 → (∀ z_14, z_14 = nZ z_10 a_14 9 0 → (∃ c_19 s_19, c_19 ≤ (c - 1) - 1 ∧ s_19 ≤ (s - Int.toNat 60) - 4 ∧ F_X8_init a_14 0 z_14 c_19 s_19 (fun z_19 => (zK z_19 t0 = 10 ∧ (∀ z_22, z_22 = wO z_19 t0 2 (some a_14) → ((0 : Int) ≤ 1600 ∧ 1600 < (33554432 : Int) ∧ 1 ≤ ((c - 1) - 1) - c_19 ∧ Int.toNat 1600 ≤ ((s - Int.toNat 60) - 4) - s_19 ∧ ∀ a_29, zK z_22 a_29 = 0 → (∀ z_29, z_29 = nZ z_22 a_29 16 1600 → (zK z_29 t0 = 10 ∧ (∀ z_31, z_31 = wO z_29 t0 3 (some a_29) → ((0 : Int) ≤ 1600 ∧ 1600 < (33554432 : Int) ∧ 1 ≤ (((c - 1) - 1) - c_19) - 1 ∧ Int.toNat 1600 ≤ (((s - Int.toNat 60) - 4) - s_19) - Int.toNat 1600 ∧ ∀ a_38, zK z_31 a_38 = 0 → (∀ z_38, z_38 = nZ z_31 a_38 16 1600 → (zK z_38 t0 = 10 ∧ (∀ z_40, z_40 = wO z_38 t0 4 (some a_38) → ((0 : Int) ≤ 5 ∧ 5 < (33554432 : Int) ∧ 1 ≤ ((((c - 1) - 1) - c_19) - 1) - 1 ∧ Int.toNat 5 ≤ ((((s - Int.toNat 60) - 4) - s_19) - Int.toNat 1600) - Int.toNat 1600 ∧ ∀ a_45, zK z_40 a_45 = 0 → (∀ z_45, z_45 = nZ z_40 a_45 16 5 → (zK z_45 t0 = 10 ∧ (∀ z_47, z_47 = wO z_45 t0 5 (some a_45) → ((0 : Int) ≤ 320 ∧ 320 < (33554432 : Int) ∧ 1 ≤ (((((c - 1) - 1) - c_19) - 1) - 1) - 1 ∧ Int.toNat 320 ≤ (((((s - Int.toNat 60) - 4) - s_19) - Int.toNat 1600) - Int.toNat 1600) - Int.toNat 5 ∧ ∀ a_54, zK z_47 a_54 = 0 → (∀ z_54, z_54 = nZ z_47 a_54 15 320 → (zK z_54 t0 = 10 ∧ (∀ z_56, z_56 = wO z_54 t0 6 (some a_54) → ((0 : Int) ≤ 320 ∧ 320 < (33554432 : Int) ∧ 1 ≤ ((((((c - 1) - 1) - c_19) - 1) - 1) - 1) - 1 ∧ Int.toNat 320 ≤ ((((((s - Int.toNat 60) - 4) - s_19) - Int.toNat 1600) - Int.toNat 1600) - Int.toNat 5) - Int.toNat 320 ∧ ∀ a_63, zK z_56 a_63 = 0 → (∀ z_63, z_63 = nZ z_56 a_63 15 320 → (zK z_63 t0 = 10 ∧ (∀ z_65, z_65 = wO z_63 t0 7 (some a_63) → (∀ z_70, z_70 = wO z_65 t0 0 x1 → F_X9_init_75 t0 0 z_70 ((((((((c - 1) - 1) - c_19) - 1) - 1) - 1) - 1) - 1) ((((((((s - Int.toNat 60) - 4) - s_19) - Int.toNat 1600) - Int.toNat 1600) - Int.toNat 5) - Int.toNat 320) - Int.toNat 320) P)))))))))))))))))))))))))))))))
theorem T_X9_init  {t0 : Nat} {x1 : Option Nat} {z : Z} {c : Nat} {s : Nat} {P : Z → Prop}  (hw : Wz z)  (H : F_X9_init t0 x1 z c s P) : Con mX9_init 5 c s [vr (some t0), vr (x1)] (cz z) (QZV P) := by
  refine con_of rfl (Nat.le_of_ble_eq_true rfl) (by decide) ?_
  show J mX9_init 5 c s _ 0 [some (vr (some t0)), some (vr (x1)), none] [] (cz z)
  unfold F_X9_init at H
  refine j_aload_n (dk dt_X9_init 0 rfl) rfl ?_
  refine j_objInit (dk dt_X9_init 1 rfl) ol_X9_3 ob_1 ob_2 (by decide) (Nat.le_of_ble_eq_true rfl) ?_
  refine j_aload_n (dk dt_X9_init 2 rfl) rfl ?_
  refine j_bipush (v := Int32.ofInt 60) (dk dt_X9_init 3 rfl) (by decide) ?_
  obtain ⟨p_7, q_7, hc_7, hs_7, H⟩ := H
  refine jz_newQ (t := 8) (dk dt_X9_init 4 rfl) nl_X9_9 ao_8 (by decide) (fun _ => rfl) p_7 q_7 hc_7 hs_7 hw (fun a_7 e_7 w_7 => ?_)
  replace H := H a_7 e_7
  replace H := H _ rfl
  obtain ⟨k_10, H⟩ := H
  refine jz_putOF (kz := 1) (dk dt_X9_init 5 rfl) fl_X9_11 rfl (fun _ _ q => by cases q; rfl) rfl rfl rfl k_10 w_7 (fun w_10 => ?_)
  replace H := H _ rfl
  refine j_aload_n (dk dt_X9_init 6 rfl) rfl ?_
  obtain ⟨hc_14, hs_14, H⟩ := H
  refine jz_new (dk dt_X9_init 7 rfl) cl_8 nl_X9_9 iw_8 zw_8 rfl hc_14 hs_14 w_10 (fun a_14 e_14 w_14 => ?_)
  replace H := H a_14 e_14
  replace H := H _ rfl
  refine j_dup (dk dt_X9_init 8 rfl) rfl ?_
  refine j_iconst (v := Int32.ofInt 0) (dk dt_X9_init 9 rfl) (by decide) ?_
  obtain ⟨c_19, s_19, hc_19, hs_19, H⟩ := H
  refine jz_callI1 (dk dt_X9_init 10 rfl) il_X9_17 rfl (T_X8_init (by decide) w_14 H) rfl (by decide) hc_19 hs_19 (Nat.le_of_ble_eq_true rfl) (fun v_19 h_19 P_19 => ?_)
  obtain ⟨z_19, rfl, rfl, w_19, H⟩ := P_19
  dsimp only [rs]
  obtain ⟨k_22, H⟩ := H
  refine jz_putOF (kz := 2) (dk dt_X9_init 11 rfl) fl_X9_20 rfl (fun _ _ q => by cases q; rfl) rfl rfl rfl k_22 w_19 (fun w_22 => ?_)
  replace H := H _ rfl
  refine j_aload_n (dk dt_X9_init 12 rfl) rfl ?_
  refine j_sipush (v := Int32.ofInt 1600) (dk dt_X9_init 13 rfl) (by decide) ?_
  obtain ⟨p_29, q_29, hc_29, hs_29, H⟩ := H
  refine jz_newJ (dk dt_X9_init 14 rfl) p_29 q_29 hc_29 hs_29 w_22 (fun a_29 e_29 w_29 => ?_)
  replace H := H a_29 e_29
  replace H := H _ rfl
  obtain ⟨k_31, H⟩ := H
  refine jz_putOF (kz := 3) (dk dt_X9_init 15 rfl) fl_X9_24 rfl (fun _ _ q => by cases q; rfl) rfl rfl rfl k_31 w_29 (fun w_31 => ?_)
  replace H := H _ rfl
  refine j_aload_n (dk dt_X9_init 16 rfl) rfl ?_
  refine j_sipush (v := Int32.ofInt 1600) (dk dt_X9_init 17 rfl) (by decide) ?_
  obtain ⟨p_38, q_38, hc_38, hs_38, H⟩ := H
  refine jz_newJ (dk dt_X9_init 18 rfl) p_38 q_38 hc_38 hs_38 w_31 (fun a_38 e_38 w_38 => ?_)
  replace H := H a_38 e_38
  replace H := H _ rfl
  obtain ⟨k_40, H⟩ := H
  refine jz_putOF (kz := 4) (dk dt_X9_init 19 rfl) fl_X9_28 rfl (fun _ _ q => by cases q; rfl) rfl rfl rfl k_40 w_38 (fun w_40 => ?_)
  replace H := H _ rfl
  refine j_aload_n (dk dt_X9_init 20 rfl) rfl ?_
  refine j_iconst (v := Int32.ofInt 5) (dk dt_X9_init 21 rfl) (by decide) ?_
  obtain ⟨p_45, q_45, hc_45, hs_45, H⟩ := H
  refine jz_newJ (dk dt_X9_init 22 rfl) p_45 q_45 hc_45 hs_45 w_40 (fun a_45 e_45 w_45 => ?_)
  replace H := H a_45 e_45
  replace H := H _ rfl
  obtain ⟨k_47, H⟩ := H
  refine jz_putOF (kz := 5) (dk dt_X9_init 23 rfl) fl_X9_31 rfl (fun _ _ q => by cases q; rfl) rfl rfl rfl k_47 w_45 (fun w_47 => ?_)
  replace H := H _ rfl
  refine j_aload_n (dk dt_X9_init 24 rfl) rfl ?_
  refine j_sipush (v := Int32.ofInt 320) (dk dt_X9_init 25 rfl) (by decide) ?_
  obtain ⟨p_54, q_54, hc_54, hs_54, H⟩ := H
  refine jz_newI (dk dt_X9_init 26 rfl) p_54 q_54 hc_54 hs_54 w_47 (fun a_54 e_54 w_54 => ?_)
  replace H := H a_54 e_54
  replace H := H _ rfl
  obtain ⟨k_56, H⟩ := H
  refine jz_putOF (kz := 6) (dk dt_X9_init 27 rfl) fl_X9_34 rfl (fun _ _ q => by cases q; rfl) rfl rfl rfl k_56 w_54 (fun w_56 => ?_)
  replace H := H _ rfl
  refine j_aload_n (dk dt_X9_init 28 rfl) rfl ?_
  refine j_sipush (v := Int32.ofInt 320) (dk dt_X9_init 29 rfl) (by decide) ?_
  obtain ⟨p_63, q_63, hc_63, hs_63, H⟩ := H
  refine jz_newI (dk dt_X9_init 30 rfl) p_63 q_63 hc_63 hs_63 w_56 (fun a_63 e_63 w_63 => ?_)
  replace H := H a_63 e_63
  replace H := H _ rfl
  obtain ⟨k_65, H⟩ := H
  refine jz_putOF (kz := 7) (dk dt_X9_init 31 rfl) fl_X9_38 rfl (fun _ _ q => by cases q; rfl) rfl rfl rfl k_65 w_63 (fun w_65 => ?_)
  replace H := H _ rfl
  refine j_aload_n (dk dt_X9_init 32 rfl) rfl ?_
  refine j_aload_n (dk dt_X9_init 33 rfl) rfl ?_
  refine jz_putOF (kz := 0) (dk dt_X9_init 34 rfl) fl_X9_41 rfl (fun _ _ q => by cases q; rfl) rfl rfl rfl k_65 w_65 (fun w_70 => ?_)
  replace H := H _ rfl
  refine j_iconst (v := Int32.ofInt 0) (dk dt_X9_init 35 rfl) (by decide) ?_
  refine j_istore_n (dk dt_X9_init 36 rfl) (by decide) ?_
  exact j_el (T_X9_init_75 (by decide) w_70   H) (And.intro rfl (And.intro rfl trivial))
