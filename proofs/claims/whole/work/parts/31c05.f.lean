def F_X11_noteOnly_61  (t0 : Nat) (x1 : Int) (x2 : Int) (x4 : Option Nat) (x5 : Option Nat) (x6 : Int) (z : Z) (P : (Int × Z) ⊕ ((Z)) → Prop) : Prop :=
  P (.inl (w32 (x6 + 1), z))
theorem T_X11_noteOnly_61  {t0 : Nat} {x1 : Int} {x2 : Int} {x4 : Option Nat} {x5 : Option Nat} {x6 : Int} {z : Z} {P : (Int × Z) ⊕ ((Z)) → Prop} {post : Option Sv ⊕ String → Hp → Prop} (r_x1 : R32 x1) (r_x2 : R32 x2) (r_x6 : R32 x6) (hw : Wz z)  (hl : ∀ (x6 : Int) (z : Z), P (.inl (x6, z)) → Wz z → R32 x6 → J mX11_noteOnly 2 0 0 post 10 [some (vr (some t0)), some (ii (x1)), some (ii (x2)), none, some (vr (x4)), some (vr (x5)), some (ii (x6))] [] (cz z)) (he0 : ∀ (z : Z), P (.inr z) → Wz z → J mX11_noteOnly 2 0 0 post 67 [none, none, none, none, none, none, none] [] (cz z)) (H : F_X11_noteOnly_61 t0 x1 x2 x4 x5 x6 z P) : J mX11_noteOnly 2 0 0 (post) 61 [some (vr (some t0)), some (ii (x1)), some (ii (x2)), none, some (vr (x4)), some (vr (x5)), some (ii (x6))] [] (cz z) := by
  unfold F_X11_noteOnly_61 at H
  refine jz_iinc (dk dt_X11_noteOnly 34 rfl) rfl ?_
  refine j_goto 10 (dk dt_X11_noteOnly 35 rfl) (by decide) ?_
  exact j_el (hl _ _ H hw (r32_w _)) (And.intro rfl (And.intro rfl (And.intro rfl (And.intro rfl (And.intro rfl (And.intro rfl trivial))))))
def F_X11_noteOnly_58  (t0 : Nat) (x1 : Int) (x2 : Int) (x4 : Option Nat) (x5 : Option Nat) (x6 : Int) (s0 : Option Nat) (s1 : Int) (s2 : Int) (s3 : Int) (z : Z) (P : (Int × Z) ⊕ ((Z)) → Prop) : Prop :=
  (∃ a_58, s0 = some a_58 ∧ zK z a_58 = 12 ∧ F_X11_noteDifference a_58 s1 s2 s3 z (fun z_58 => F_X11_noteOnly_61 t0 x1 x2 x4 x5 x6 z_58 P))
theorem T_X11_noteOnly_58  {t0 : Nat} {x1 : Int} {x2 : Int} {x4 : Option Nat} {x5 : Option Nat} {x6 : Int} {s0 : Option Nat} {s1 : Int} {s2 : Int} {s3 : Int} {z : Z} {P : (Int × Z) ⊕ ((Z)) → Prop} {post : Option Sv ⊕ String → Hp → Prop} (r_x1 : R32 x1) (r_x2 : R32 x2) (r_x6 : R32 x6) (r_s1 : R32 s1) (r_s2 : R32 s2) (r_s3 : R32 s3) (hw : Wz z)  (hl : ∀ (x6 : Int) (z : Z), P (.inl (x6, z)) → Wz z → R32 x6 → J mX11_noteOnly 2 0 0 post 10 [some (vr (some t0)), some (ii (x1)), some (ii (x2)), none, some (vr (x4)), some (vr (x5)), some (ii (x6))] [] (cz z)) (he0 : ∀ (z : Z), P (.inr z) → Wz z → J mX11_noteOnly 2 0 0 post 67 [none, none, none, none, none, none, none] [] (cz z)) (H : F_X11_noteOnly_58 t0 x1 x2 x4 x5 x6 s0 s1 s2 s3 z P) : J mX11_noteOnly 2 0 0 (post) 58 [some (vr (some t0)), some (ii (x1)), some (ii (x2)), none, some (vr (x4)), some (vr (x5)), some (ii (x6))] [ii (s3), ii (s2), ii (s1), vr (s0)] (cz z) := by
  unfold F_X11_noteOnly_58 at H
  obtain ⟨a_58, e_58, k_58, H⟩ := H
  refine jz_callV3 (dk dt_X11_noteOnly 33 rfl) vl_X11_326 e_58 (T_X11_noteDifference r_s1 r_s2 r_s3 hw H) k_58 rfl (by decide) (Nat.zero_le _) (Nat.zero_le _) (Nat.le_of_ble_eq_true rfl) (fun v_58 h_58 P_58 => ?_)
  obtain ⟨z_58, rfl, rfl, w_58, H⟩ := P_58
  dsimp only [rs]
  exact j_el (T_X11_noteOnly_61 r_x1 r_x2 r_x6 w_58  hl he0 H) (And.intro rfl (And.intro rfl (And.intro rfl (And.intro rfl (And.intro rfl (And.intro rfl trivial))))))
def F_X11_noteOnly_46  (t0 : Nat) (x1 : Int) (x2 : Int) (x4 : Option Nat) (x5 : Option Nat) (x6 : Int) (s0 : Option Nat) (s1 : Int) (s2 : Int) (z : Z) (P : (Int × Z) ⊕ ((Z)) → Prop) : Prop :=
  (if x2 = 0 then F_X11_noteOnly_58 t0 x1 x2 x4 x5 x6 s0 s1 s2 0 z P else F_X11_noteOnly_58 t0 x1 x2 x4 x5 x6 s0 s1 s2 (w32 (x6 + 1)) z P)
theorem T_X11_noteOnly_46  {t0 : Nat} {x1 : Int} {x2 : Int} {x4 : Option Nat} {x5 : Option Nat} {x6 : Int} {s0 : Option Nat} {s1 : Int} {s2 : Int} {z : Z} {P : (Int × Z) ⊕ ((Z)) → Prop} {post : Option Sv ⊕ String → Hp → Prop} (r_x1 : R32 x1) (r_x2 : R32 x2) (r_x6 : R32 x6) (r_s1 : R32 s1) (r_s2 : R32 s2) (hw : Wz z)  (hl : ∀ (x6 : Int) (z : Z), P (.inl (x6, z)) → Wz z → R32 x6 → J mX11_noteOnly 2 0 0 post 10 [some (vr (some t0)), some (ii (x1)), some (ii (x2)), none, some (vr (x4)), some (vr (x5)), some (ii (x6))] [] (cz z)) (he0 : ∀ (z : Z), P (.inr z) → Wz z → J mX11_noteOnly 2 0 0 post 67 [none, none, none, none, none, none, none] [] (cz z)) (H : F_X11_noteOnly_46 t0 x1 x2 x4 x5 x6 s0 s1 s2 z P) : J mX11_noteOnly 2 0 0 (post) 46 [some (vr (some t0)), some (ii (x1)), some (ii (x2)), none, some (vr (x4)), some (vr (x5)), some (ii (x6))] [ii (s2), ii (s1), vr (s0)] (cz z) := by
  unfold F_X11_noteOnly_46 at H
  refine j_iload_n (dk dt_X11_noteOnly 26 rfl) rfl ?_
  refine jz_if_ne 54 (dk dt_X11_noteOnly 27 rfl) (by decide) r_x2 H (fun H => ?_) (fun H => ?_)
  · refine j_iconst (v := Int32.ofInt 0) (dk dt_X11_noteOnly 28 rfl) (by decide) ?_
    refine j_goto 58 (dk dt_X11_noteOnly 29 rfl) (by decide) ?_
    exact j_el (T_X11_noteOnly_58 r_x1 r_x2 r_x6 r_s1 r_s2 (by decide) hw  hl he0 H) (And.intro rfl (And.intro rfl (And.intro rfl (And.intro rfl (And.intro rfl (And.intro rfl trivial))))))
  · refine j_iload (dk dt_X11_noteOnly 30 rfl) rfl ?_
    refine j_iconst (v := Int32.ofInt 1) (dk dt_X11_noteOnly 31 rfl) (by decide) ?_
    refine jz_iadd (dk dt_X11_noteOnly 32 rfl) ?_
    exact j_el (T_X11_noteOnly_58 r_x1 r_x2 r_x6 r_s1 r_s2 (r32_w _) hw  hl he0 H) (And.intro rfl (And.intro rfl (And.intro rfl (And.intro rfl (And.intro rfl (And.intro rfl trivial))))))
def L_X11_noteOnly_10  (t0 : Nat) (x1 : Int) (x2 : Int) (x4 : Option Nat) (x5 : Option Nat) (x6 : Int) (z : Z) (P : (Int × Z) ⊕ ((Z)) → Prop) : Prop :=
  (∃ a_14, x5 = some a_14 ∧ zK z a_14 = 15 ∧ (if zN z a_14 ≤ x6 then P (.inr z) else (0 ≤ x6 ∧ x6 < zN z a_14 ∧ (∃ a_26, x4 = some a_26 ∧ zK z a_26 = 7 ∧ F_X6_placeOf a_26 x2 (zI z a_14 x6) z (fun x_26 => (if x_26 = 0 then (if x2 = 0 then F_X11_noteOnly_46 t0 x1 x2 x4 x5 x6 (some t0) x1 (w32 (x6 + 1)) z P else F_X11_noteOnly_46 t0 x1 x2 x4 x5 x6 (some t0) x1 0 z P) else F_X11_noteOnly_61 t0 x1 x2 x4 x5 x6 z P))))))
theorem U_X11_noteOnly_10  {t0 : Nat} {x1 : Int} {x2 : Int} {x4 : Option Nat} {x5 : Option Nat} {x6 : Int} {z : Z} {P : (Int × Z) ⊕ ((Z)) → Prop} {post : Option Sv ⊕ String → Hp → Prop} (r_x1 : R32 x1) (r_x2 : R32 x2) (r_x6 : R32 x6) (hw : Wz z)  (hl : ∀ (x6 : Int) (z : Z), P (.inl (x6, z)) → Wz z → R32 x6 → J mX11_noteOnly 2 0 0 post 10 [some (vr (some t0)), some (ii (x1)), some (ii (x2)), none, some (vr (x4)), some (vr (x5)), some (ii (x6))] [] (cz z)) (he0 : ∀ (z : Z), P (.inr z) → Wz z → J mX11_noteOnly 2 0 0 post 67 [none, none, none, none, none, none, none] [] (cz z)) (H : L_X11_noteOnly_10 t0 x1 x2 x4 x5 x6 z P) : J mX11_noteOnly 2 0 0 post 10 [some (vr (some t0)), some (ii (x1)), some (ii (x2)), none, some (vr (x4)), some (vr (x5)), some (ii (x6))] [] (cz z) := by
  unfold L_X11_noteOnly_10 at H
  refine j_iload (dk dt_X11_noteOnly 6 rfl) rfl ?_
  refine j_aload (dk dt_X11_noteOnly 7 rfl) rfl ?_
  obtain ⟨a_14, e_14, k_14, H⟩ := H
  refine jz_alen (t := 1) (dk dt_X11_noteOnly 8 rfl) e_14 k_14 (by decide) hw ?_
  refine jz_icmp_ge 67 (dk dt_X11_noteOnly 9 rfl) (by decide) r_x6 (r32_len hw _) H (fun H => ?_) (fun H => ?_)
  · exact j_el (he0 _ H hw) trivial
  · refine j_aload (dk dt_X11_noteOnly 10 rfl) rfl ?_
    refine j_iload_n (dk dt_X11_noteOnly 11 rfl) rfl ?_
    refine j_aload (dk dt_X11_noteOnly 12 rfl) rfl ?_
    refine j_iload (dk dt_X11_noteOnly 13 rfl) rfl ?_
    obtain ⟨p_25, q_25, H⟩ := H
    refine jz_iald (dk dt_X11_noteOnly 14 rfl) e_14 k_14 p_25 q_25 hw ?_
    obtain ⟨a_26, e_26, k_26, H⟩ := H
    refine jz_callV2 (dk dt_X11_noteOnly 15 rfl) vl_X11_299 e_26 (T_X6_placeOf r_x2 (hw.1 _ _) hw H) k_26 rfl (by decide) (Nat.zero_le _) (Nat.zero_le _) (Nat.le_of_ble_eq_true rfl) (fun v_26 h_26 P_26 => ?_)
    obtain ⟨x_26, rfl, r_26, rfl, H⟩ := P_26
    dsimp only [rs]
    refine jz_if_ne 61 (dk dt_X11_noteOnly 16 rfl) (by decide) r_26 H (fun H => ?_) (fun H => ?_)
    · refine j_aload_n (dk dt_X11_noteOnly 17 rfl) rfl ?_
      refine j_iload_n (dk dt_X11_noteOnly 18 rfl) rfl ?_
      refine j_iload_n (dk dt_X11_noteOnly 19 rfl) rfl ?_
      refine jz_if_ne 45 (dk dt_X11_noteOnly 20 rfl) (by decide) r_x2 H (fun H => ?_) (fun H => ?_)
      · refine j_iload (dk dt_X11_noteOnly 21 rfl) rfl ?_
        refine j_iconst (v := Int32.ofInt 1) (dk dt_X11_noteOnly 22 rfl) (by decide) ?_
        refine jz_iadd (dk dt_X11_noteOnly 23 rfl) ?_
        refine j_goto 46 (dk dt_X11_noteOnly 24 rfl) (by decide) ?_
        exact j_el (T_X11_noteOnly_46 r_x1 r_x2 r_x6 r_x1 (r32_w _) hw  hl he0 H) (And.intro rfl (And.intro rfl (And.intro rfl (And.intro rfl (And.intro rfl (And.intro rfl trivial))))))
      · refine j_iconst (v := Int32.ofInt 0) (dk dt_X11_noteOnly 25 rfl) (by decide) ?_
        exact j_el (T_X11_noteOnly_46 r_x1 r_x2 r_x6 r_x1 (by decide) hw  hl he0 H) (And.intro rfl (And.intro rfl (And.intro rfl (And.intro rfl (And.intro rfl (And.intro rfl trivial))))))
    · exact j_el (T_X11_noteOnly_61 r_x1 r_x2 r_x6 hw  hl he0 H) (And.intro rfl (And.intro rfl (And.intro rfl (And.intro rfl (And.intro rfl (And.intro rfl trivial))))))
def F_X11_noteOnly_10  (t0 : Nat) (x1 : Int) (x2 : Int) (x4 : Option Nat) (x5 : Option Nat) (x6 : Int) (z : Z) (P : Z → Prop) : Prop :=
  lp (S := Int × Z) (E := (Z)) (fun q P_ => L_X11_noteOnly_10 t0 x1 x2 x4 x5 q.1 q.2 P_) (x6, z) (fun (z : Z) => P z)
theorem T_X11_noteOnly_10  {t0 : Nat} {x1 : Int} {x2 : Int} {x4 : Option Nat} {x5 : Option Nat} {x6 : Int} {z : Z} {P : Z → Prop} (r_x1 : R32 x1) (r_x2 : R32 x2) (r_x6 : R32 x6) (hw : Wz z)   (H : F_X11_noteOnly_10 t0 x1 x2 x4 x5 x6 z P) : J mX11_noteOnly 2 0 0 (nx (QZV P)) 10 [some (vr (some t0)), some (ii (x1)), some (ii (x2)), none, some (vr (x4)), some (vr (x5)), some (ii (x6))] [] (cz z) := by
  unfold F_X11_noteOnly_10 at H
  refine lp_J (G := fun q => Wz (q.2) → R32 (q.1) → J mX11_noteOnly 2 0 0 (nx (QZV P)) 10 [some (vr (some t0)), some (ii (x1)), some (ii (x2)), none, some (vr (x4)), some (vr (x5)), some (ii ((q.1)))] [] (cz (q.2))) (fun q P_ hl_ he_ Hb => ?_) (x6, z) H hw r_x6
  obtain ⟨x6, z⟩ := q
  intro hw r_x6
  refine U_X11_noteOnly_10 (P := P_) r_x1 r_x2 r_x6 hw  (fun x6 z Hp hw r_x6 => hl_ (x6, z) Hp hw r_x6) ?_ Hb
  · intro z Hp hw
    have H := he_ _ Hp
    exact j_return (dk dt_X11_noteOnly 36 rfl) rfl ⟨_, rfl, rfl, hw, H⟩
def F_X11_noteOnly  (t0 : Nat) (x1 : Int) (x2 : Int) (x3 : Option Nat) (x4 : Option Nat) (z : Z) (P : Z → Prop) : Prop :=
  (∃ a_2, x3 = some a_2 ∧ zK z a_2 = 7 ∧ F_X6_line a_2 x2 z (fun x_2 => F_X11_noteOnly_10 t0 x1 x2 x4 x_2 0 z P))
theorem T_X11_noteOnly  {t0 : Nat} {x1 : Int} {x2 : Int} {x3 : Option Nat} {x4 : Option Nat} {z : Z} {P : Z → Prop} (r_x1 : R32 x1) (r_x2 : R32 x2) (hw : Wz z)  (H : F_X11_noteOnly t0 x1 x2 x3 x4 z P) : Con mX11_noteOnly 2 0 0 [vr (some t0), ii (x1), ii (x2), vr (x3), vr (x4)] (cz z) (QZV P) := by
  refine con_of rfl (Nat.le_of_ble_eq_true rfl) (by decide) ?_
  show J mX11_noteOnly 2 0 0 _ 0 [some (vr (some t0)), some (ii (x1)), some (ii (x2)), some (vr (x3)), some (vr (x4)), none, none] [] (cz z)
  unfold F_X11_noteOnly at H
  refine j_aload_n (dk dt_X11_noteOnly 0 rfl) rfl ?_
  refine j_iload_n (dk dt_X11_noteOnly 1 rfl) rfl ?_
  obtain ⟨a_2, e_2, k_2, H⟩ := H
  refine jz_callV1 (dk dt_X11_noteOnly 2 rfl) vl_X11_160 e_2 (T_X6_line r_x2 hw H) k_2 rfl (by decide) (Nat.zero_le _) (Nat.zero_le _) (Nat.le_of_ble_eq_true rfl) (fun v_2 h_2 P_2 => ?_)
  obtain ⟨x_2, rfl, rfl, H⟩ := P_2
  dsimp only [rs]
  refine j_astore (dk dt_X11_noteOnly 3 rfl) (by decide) ?_
  refine j_iconst (v := Int32.ofInt 0) (dk dt_X11_noteOnly 4 rfl) (by decide) ?_
  refine j_istore (dk dt_X11_noteOnly 5 rfl) (by decide) ?_
  exact j_el (T_X11_noteOnly_10 r_x1 r_x2 (by decide) hw   H) (And.intro rfl (And.intro rfl (And.intro rfl (And.intro rfl (And.intro rfl (And.intro rfl trivial))))))
def F_X11_diff_22  (z : Z) (c : Nat) (s : Nat) (P : Int → Z → Prop) (X : Nat → Z → Prop) : Prop :=
  (1 ≤ c ∧ 6 ≤ s ∧ X 4 z)
theorem T_X11_diff_22  {z : Z} {c : Nat} {s : Nat} {P : Int → Z → Prop} {X : Nat → Z → Prop}  (hw : Wz z)   (H : F_X11_diff_22 z c s P X) : J mX11_diff 6 c s (QX (QZI P) X) 22 [none, none, none, none, none] [] (cz z) := by
  unfold F_X11_diff_22 at H
  obtain ⟨hc_, hs_, H⟩ := H
  exact j_throw (E := "java/util/NoSuchElementException") ⟨223, 225, by decide, (dk dt_X11_diff 12 rfl), (dk dt_X11_diff 13 rfl), (dk dt_X11_diff 14 rfl), (dk dt_X11_diff 15 rfl)⟩ hc_ hs_ (Nat.le_of_ble_eq_true rfl) ⟨4, _, rfl, rfl, hw, H⟩
def F_X11_diff_126  (t0 : Nat) (x3 : Option Nat) (x4 : Option Nat) (z : Z) (c : Nat) (s : Nat) (P : Int → Z → Prop) (X : Nat → Z → Prop) : Prop :=
  (zK z t0 = 12 ∧ F_X11_noteCells t0 x3 x4 z (fun z_130 => (zK z_130 t0 = 12 ∧ P (zI z_130 t0 10) z_130)))
theorem T_X11_diff_126  {t0 : Nat} {x3 : Option Nat} {x4 : Option Nat} {z : Z} {c : Nat} {s : Nat} {P : Int → Z → Prop} {X : Nat → Z → Prop}  (hw : Wz z)   (H : F_X11_diff_126 t0 x3 x4 z c s P X) : J mX11_diff 6 c s (QX (QZI P) X) 126 [some (vr (some t0)), none, none, some (vr (x3)), some (vr (x4))] [] (cz z) := by
  unfold F_X11_diff_126 at H
  refine j_aload_n (dk dt_X11_diff 69 rfl) rfl ?_
  refine j_aload_n (dk dt_X11_diff 70 rfl) rfl ?_
  refine j_aload (dk dt_X11_diff 71 rfl) rfl ?_
  obtain ⟨k_130, H⟩ := H
  refine jz_callV2 (dk dt_X11_diff 72 rfl) vl_X11_330 rfl (T_X11_noteCells hw H) k_130 rfl (by decide) (Nat.zero_le _) (Nat.zero_le _) (Nat.le_of_ble_eq_true rfl) (fun v_130 h_130 P_130 => ?_)
  obtain ⟨z_130, rfl, rfl, w_130, H⟩ := P_130
  dsimp only [rs]
  refine j_aload_n (dk dt_X11_diff 73 rfl) rfl ?_
  obtain ⟨k_134, H⟩ := H
  refine jz_getI (kz := 10) (dk dt_X11_diff 74 rfl) fl_X11_315 rfl rfl rfl k_134 ?_
  exact j_ireturn (dk dt_X11_diff 75 rfl) rfl rfl ⟨_, _, rfl, (w_130.1 _ _), rfl, w_130, H⟩
def F_X11_diff_98  (t0 : Nat) (x3 : Option Nat) (x4 : Option Nat) (z : Z) (c : Nat) (s : Nat) (P : Int → Z → Prop) (X : Nat → Z → Prop) : Prop :=
  (∃ a_99, x3 = some a_99 ∧ zK z a_99 = 7 ∧ (∃ a_104, x4 = some a_104 ∧ zK z a_104 = 7 ∧ F_X11_inSameOrder (zO z a_99 1) (zO z a_104 1) (zO z a_104 1) z (fun x_112 => (if x_112 = 0 then (zK z t0 = 12 ∧ F_X11_noteDifference t0 6 0 0 z (fun z_123 => F_X11_diff_126 t0 x3 x4 z_123 c s P X)) else F_X11_diff_126 t0 x3 x4 z c s P X))))
theorem T_X11_diff_98  {t0 : Nat} {x3 : Option Nat} {x4 : Option Nat} {z : Z} {c : Nat} {s : Nat} {P : Int → Z → Prop} {X : Nat → Z → Prop}  (hw : Wz z)   (H : F_X11_diff_98 t0 x3 x4 z c s P X) : J mX11_diff 6 c s (QX (QZI P) X) 98 [some (vr (some t0)), none, none, some (vr (x3)), some (vr (x4))] [] (cz z) := by
  unfold F_X11_diff_98 at H
  refine j_aload_n (dk dt_X11_diff 56 rfl) rfl ?_
  obtain ⟨a_99, e_99, k_99, H⟩ := H
  refine jz_getO (kz := 1) (dk dt_X11_diff 57 rfl) fl_X11_197 rfl rfl e_99 k_99 ?_
  refine j_aload (dk dt_X11_diff 58 rfl) rfl ?_
  obtain ⟨a_104, e_104, k_104, H⟩ := H
  refine jz_getO (kz := 1) (dk dt_X11_diff 59 rfl) fl_X11_197 rfl rfl e_104 k_104 ?_
  refine j_aload (dk dt_X11_diff 60 rfl) rfl ?_
  refine jz_getO (kz := 1) (dk dt_X11_diff 61 rfl) fl_X11_197 rfl rfl e_104 k_104 ?_
  refine j_callS3 (dk dt_X11_diff 62 rfl) sl_X11_322 (T_X11_inSameOrder hw H) rfl (by decide) (Nat.zero_le _) (Nat.zero_le _) (Nat.le_of_ble_eq_true rfl) (fun v_112 h_112 P_112 => ?_)
  obtain ⟨x_112, rfl, r_112, rfl, H⟩ := P_112
  dsimp only [rs]
  refine jz_if_ne 126 (dk dt_X11_diff 63 rfl) (by decide) r_112 H (fun H => ?_) (fun H => ?_)
  · refine j_aload_n (dk dt_X11_diff 64 rfl) rfl ?_
    refine j_bipush (v := Int32.ofInt 6) (dk dt_X11_diff 65 rfl) (by decide) ?_
    refine j_iconst (v := Int32.ofInt 0) (dk dt_X11_diff 66 rfl) (by decide) ?_
    refine j_iconst (v := Int32.ofInt 0) (dk dt_X11_diff 67 rfl) (by decide) ?_
    obtain ⟨k_123, H⟩ := H
    refine jz_callV3 (dk dt_X11_diff 68 rfl) vl_X11_326 rfl (T_X11_noteDifference (by decide) (by decide) (by decide) hw H) k_123 rfl (by decide) (Nat.zero_le _) (Nat.zero_le _) (Nat.le_of_ble_eq_true rfl) (fun v_123 h_123 P_123 => ?_)
    obtain ⟨z_123, rfl, rfl, w_123, H⟩ := P_123
    dsimp only [rs]
    exact j_el (T_X11_diff_126  w_123   H) (And.intro rfl (And.intro rfl (And.intro rfl trivial)))
  · exact j_el (T_X11_diff_126  hw   H) (And.intro rfl (And.intro rfl (And.intro rfl trivial)))
def F_X11_diff  (t0 : Nat) (x1 : Int) (x2 : Int) (z : Z) (c : Nat) (s : Nat) (P : Int → Z → Prop) (X : Nat → Z → Prop) : Prop :=
  (zK z t0 = 12 ∧ F_X11_sheetOf t0 x1 z (fun x_2 => F_X11_sheetOf t0 x2 z (fun x_8 => (if x_2 = none then F_X11_diff_22 z c s P X else (if x_8 = none then F_X11_diff_22 z c s P X else (∀ z_32, z_32 = wI z t0 10 0 → F_X11_noteOnly t0 1 0 x_2 x_8 z_32 (fun z_41 => (zK z_41 t0 = 12 ∧ F_X11_noteOnly t0 2 0 x_8 x_2 z_41 (fun z_50 => (zK z_50 t0 = 12 ∧ F_X11_noteOnly t0 3 1 x_2 x_8 z_50 (fun z_59 => (zK z_59 t0 = 12 ∧ F_X11_noteOnly t0 4 1 x_8 x_2 z_59 (fun z_68 => (∃ a_72, x_2 = some a_72 ∧ zK z_68 a_72 = 7 ∧ (∃ a_77, x_8 = some a_77 ∧ zK z_68 a_77 = 7 ∧ F_X11_inSameOrder (zO z_68 a_72 0) (zO z_68 a_77 0) (zO z_68 a_77 0) z_68 (fun x_85 => (if x_85 = 0 then (zK z_68 t0 = 12 ∧ F_X11_noteDifference t0 5 0 0 z_68 (fun z_95 => F_X11_diff_98 t0 x_2 x_8 z_95 c s P X)) else F_X11_diff_98 t0 x_2 x_8 z_68 c s P X)))))))))))))))))
theorem T_X11_diff  {t0 : Nat} {x1 : Int} {x2 : Int} {z : Z} {c : Nat} {s : Nat} {P : Int → Z → Prop} {X : Nat → Z → Prop} (r_x1 : R32 x1) (r_x2 : R32 x2) (hw : Wz z)  (H : F_X11_diff t0 x1 x2 z c s P X) : ConX mX11_diff 6 c s [vr (some t0), ii (x1), ii (x2)] (cz z) (QX (QZI P) X) := by
  refine con_ofX rfl (Nat.le_of_ble_eq_true rfl) (by decide) (by decide) ?_
  show J mX11_diff 6 c s _ 0 [some (vr (some t0)), some (ii (x1)), some (ii (x2)), none, none] [] (cz z)
  unfold F_X11_diff at H
  refine j_aload_n (dk dt_X11_diff 0 rfl) rfl ?_
  refine j_iload_n (dk dt_X11_diff 1 rfl) rfl ?_
  obtain ⟨k_2, H⟩ := H
  refine jz_callV1 (dk dt_X11_diff 2 rfl) vl_X11_312 rfl (T_X11_sheetOf r_x1 hw H) k_2 rfl (by decide) (Nat.zero_le _) (Nat.zero_le _) (Nat.le_of_ble_eq_true rfl) (fun v_2 h_2 P_2 => ?_)
  obtain ⟨x_2, rfl, rfl, H⟩ := P_2
  dsimp only [rs]
  refine j_astore_n (dk dt_X11_diff 3 rfl) (by decide) ?_
  refine j_aload_n (dk dt_X11_diff 4 rfl) rfl ?_
  refine j_iload_n (dk dt_X11_diff 5 rfl) rfl ?_
  refine jz_callV1 (dk dt_X11_diff 6 rfl) vl_X11_312 rfl (T_X11_sheetOf r_x2 hw H) k_2 rfl (by decide) (Nat.zero_le _) (Nat.zero_le _) (Nat.le_of_ble_eq_true rfl) (fun v_8 h_8 P_8 => ?_)
  obtain ⟨x_8, rfl, rfl, H⟩ := P_8
  dsimp only [rs]
  refine j_astore (dk dt_X11_diff 7 rfl) (by decide) ?_
  refine j_aload_n (dk dt_X11_diff 8 rfl) rfl ?_
  refine jz_ifnull 22 (dk dt_X11_diff 9 rfl) (by decide) H (fun H => ?_) (fun H => ?_)
  · exact j_el (T_X11_diff_22  hw   H) trivial
  · refine j_aload (dk dt_X11_diff 10 rfl) rfl ?_
    refine jz_ifnonnull 30 (dk dt_X11_diff 11 rfl) (by decide) H (fun H => ?_) (fun H => ?_)
    · exact j_el (T_X11_diff_22  hw   H) trivial
    · refine j_aload_n (dk dt_X11_diff 16 rfl) rfl ?_
      refine j_iconst (v := Int32.ofInt 0) (dk dt_X11_diff 17 rfl) (by decide) ?_
      refine jz_putI (kz := 10) (dk dt_X11_diff 18 rfl) fl_X11_315 rfl rfl rfl rfl rfl k_2 hw (by decide) (fun w_32 => ?_)
      replace H := H _ rfl
      refine j_aload_n (dk dt_X11_diff 19 rfl) rfl ?_
      refine j_iconst (v := Int32.ofInt 1) (dk dt_X11_diff 20 rfl) (by decide) ?_
      refine j_iconst (v := Int32.ofInt 0) (dk dt_X11_diff 21 rfl) (by decide) ?_
      refine j_aload_n (dk dt_X11_diff 22 rfl) rfl ?_
      refine j_aload (dk dt_X11_diff 23 rfl) rfl ?_
      refine jz_callV4 (dk dt_X11_diff 24 rfl) vl_X11_318 rfl (T_X11_noteOnly (by decide) (by decide) w_32 H) k_2 rfl (by decide) (Nat.zero_le _) (Nat.zero_le _) (Nat.le_of_ble_eq_true rfl) (fun v_41 h_41 P_41 => ?_)
      obtain ⟨z_41, rfl, rfl, w_41, H⟩ := P_41
      dsimp only [rs]
      refine j_aload_n (dk dt_X11_diff 25 rfl) rfl ?_
      refine j_iconst (v := Int32.ofInt 2) (dk dt_X11_diff 26 rfl) (by decide) ?_
      refine j_iconst (v := Int32.ofInt 0) (dk dt_X11_diff 27 rfl) (by decide) ?_
      refine j_aload (dk dt_X11_diff 28 rfl) rfl ?_
      refine j_aload_n (dk dt_X11_diff 29 rfl) rfl ?_
      obtain ⟨k_50, H⟩ := H
      refine jz_callV4 (dk dt_X11_diff 30 rfl) vl_X11_318 rfl (T_X11_noteOnly (by decide) (by decide) w_41 H) k_50 rfl (by decide) (Nat.zero_le _) (Nat.zero_le _) (Nat.le_of_ble_eq_true rfl) (fun v_50 h_50 P_50 => ?_)
      obtain ⟨z_50, rfl, rfl, w_50, H⟩ := P_50
      dsimp only [rs]
      refine j_aload_n (dk dt_X11_diff 31 rfl) rfl ?_
      refine j_iconst (v := Int32.ofInt 3) (dk dt_X11_diff 32 rfl) (by decide) ?_
      refine j_iconst (v := Int32.ofInt 1) (dk dt_X11_diff 33 rfl) (by decide) ?_
      refine j_aload_n (dk dt_X11_diff 34 rfl) rfl ?_
      refine j_aload (dk dt_X11_diff 35 rfl) rfl ?_
      obtain ⟨k_59, H⟩ := H
      refine jz_callV4 (dk dt_X11_diff 36 rfl) vl_X11_318 rfl (T_X11_noteOnly (by decide) (by decide) w_50 H) k_59 rfl (by decide) (Nat.zero_le _) (Nat.zero_le _) (Nat.le_of_ble_eq_true rfl) (fun v_59 h_59 P_59 => ?_)
      obtain ⟨z_59, rfl, rfl, w_59, H⟩ := P_59
      dsimp only [rs]
      refine j_aload_n (dk dt_X11_diff 37 rfl) rfl ?_
      refine j_iconst (v := Int32.ofInt 4) (dk dt_X11_diff 38 rfl) (by decide) ?_
      refine j_iconst (v := Int32.ofInt 1) (dk dt_X11_diff 39 rfl) (by decide) ?_
      refine j_aload (dk dt_X11_diff 40 rfl) rfl ?_
      refine j_aload_n (dk dt_X11_diff 41 rfl) rfl ?_
      obtain ⟨k_68, H⟩ := H
      refine jz_callV4 (dk dt_X11_diff 42 rfl) vl_X11_318 rfl (T_X11_noteOnly (by decide) (by decide) w_59 H) k_68 rfl (by decide) (Nat.zero_le _) (Nat.zero_le _) (Nat.le_of_ble_eq_true rfl) (fun v_68 h_68 P_68 => ?_)
      obtain ⟨z_68, rfl, rfl, w_68, H⟩ := P_68
      dsimp only [rs]
      refine j_aload_n (dk dt_X11_diff 43 rfl) rfl ?_
      obtain ⟨a_72, e_72, k_72, H⟩ := H
      refine jz_getO (kz := 0) (dk dt_X11_diff 44 rfl) fl_X11_190 rfl rfl e_72 k_72 ?_
      refine j_aload (dk dt_X11_diff 45 rfl) rfl ?_
      obtain ⟨a_77, e_77, k_77, H⟩ := H
      refine jz_getO (kz := 0) (dk dt_X11_diff 46 rfl) fl_X11_190 rfl rfl e_77 k_77 ?_
      refine j_aload (dk dt_X11_diff 47 rfl) rfl ?_
      refine jz_getO (kz := 0) (dk dt_X11_diff 48 rfl) fl_X11_190 rfl rfl e_77 k_77 ?_
      refine j_callS3 (dk dt_X11_diff 49 rfl) sl_X11_322 (T_X11_inSameOrder w_68 H) rfl (by decide) (Nat.zero_le _) (Nat.zero_le _) (Nat.le_of_ble_eq_true rfl) (fun v_85 h_85 P_85 => ?_)
      obtain ⟨x_85, rfl, r_85, rfl, H⟩ := P_85
      dsimp only [rs]
      refine jz_if_ne 98 (dk dt_X11_diff 50 rfl) (by decide) r_85 H (fun H => ?_) (fun H => ?_)
      · refine j_aload_n (dk dt_X11_diff 51 rfl) rfl ?_
        refine j_iconst (v := Int32.ofInt 5) (dk dt_X11_diff 52 rfl) (by decide) ?_
        refine j_iconst (v := Int32.ofInt 0) (dk dt_X11_diff 53 rfl) (by decide) ?_
        refine j_iconst (v := Int32.ofInt 0) (dk dt_X11_diff 54 rfl) (by decide) ?_
        obtain ⟨k_95, H⟩ := H
        refine jz_callV3 (dk dt_X11_diff 55 rfl) vl_X11_326 rfl (T_X11_noteDifference (by decide) (by decide) (by decide) w_68 H) k_95 rfl (by decide) (Nat.zero_le _) (Nat.zero_le _) (Nat.le_of_ble_eq_true rfl) (fun v_95 h_95 P_95 => ?_)
        obtain ⟨z_95, rfl, rfl, w_95, H⟩ := P_95
        dsimp only [rs]
        exact j_el (T_X11_diff_98  w_95   H) (And.intro rfl (And.intro rfl (And.intro rfl trivial)))
      · exact j_el (T_X11_diff_98  w_68   H) (And.intro rfl (And.intro rfl (And.intro rfl trivial)))
def F_X11_difference_21  (z : Z) (P : Int → Prop) : Prop :=
  P (-1)
theorem T_X11_difference_21  {z : Z} {P : Int → Prop}  (hw : Wz z)   (H : F_X11_difference_21 z P) : J mX11_difference 1 0 0 (nx (QPI (cz z) P)) 21 [none, none, none] [] (cz z) := by
  unfold F_X11_difference_21 at H
  refine j_iconst (v := Int32.ofInt (-1)) (dk dt_X11_difference 11 rfl) (by decide) ?_
  exact j_ireturn (dk dt_X11_difference 12 rfl) rfl rfl ⟨_, rfl, (by decide), rfl, H⟩
def F_X11_difference  (t0 : Nat) (x1 : Int) (x2 : Int) (z : Z) (P : Int → Prop) : Prop :=
  (if x1 < 0 then F_X11_difference_21 z P else (zK z t0 = 12 ∧ (if zI z t0 10 ≤ x1 then F_X11_difference_21 z P else (if x2 < 0 then F_X11_difference_21 z P else (if x2 ≤ 2 then (∃ a_32, zO z t0 9 = some a_32 ∧ zK z a_32 = 15 ∧ (0 ≤ w32 (w32 (3 * x1) + x2) ∧ w32 (w32 (3 * x1) + x2) < zN z a_32 ∧ P (zI z a_32 (w32 (w32 (3 * x1) + x2))))) else F_X11_difference_21 z P)))))
theorem T_X11_difference  {t0 : Nat} {x1 : Int} {x2 : Int} {z : Z} {P : Int → Prop} (r_x1 : R32 x1) (r_x2 : R32 x2) (hw : Wz z)  (H : F_X11_difference t0 x1 x2 z P) : Con mX11_difference 1 0 0 [vr (some t0), ii (x1), ii (x2)] (cz z) (QPI (cz z) P) := by
  refine con_of rfl (Nat.le_of_ble_eq_true rfl) (by decide) ?_
  show J mX11_difference 1 0 0 _ 0 [some (vr (some t0)), some (ii (x1)), some (ii (x2))] [] (cz z)
  unfold F_X11_difference at H
  refine j_iload_n (dk dt_X11_difference 0 rfl) rfl ?_
  refine jz_if_lt 21 (dk dt_X11_difference 1 rfl) (by decide) r_x1 H (fun H => ?_) (fun H => ?_)
  · exact j_el (T_X11_difference_21  hw   H) trivial
  · refine j_iload_n (dk dt_X11_difference 2 rfl) rfl ?_
    refine j_aload_n (dk dt_X11_difference 3 rfl) rfl ?_
    obtain ⟨k_6, H⟩ := H
    refine jz_getI (kz := 10) (dk dt_X11_difference 4 rfl) fl_X11_315 rfl rfl rfl k_6 ?_
    refine jz_icmp_ge 21 (dk dt_X11_difference 5 rfl) (by decide) r_x1 (hw.1 _ _) H (fun H => ?_) (fun H => ?_)
    · exact j_el (T_X11_difference_21  hw   H) trivial
    · refine j_iload_n (dk dt_X11_difference 6 rfl) rfl ?_
      refine jz_if_lt 21 (dk dt_X11_difference 7 rfl) (by decide) r_x2 H (fun H => ?_) (fun H => ?_)
      · exact j_el (T_X11_difference_21  hw   H) trivial
      · refine j_iload_n (dk dt_X11_difference 8 rfl) rfl ?_
        refine j_iconst (v := Int32.ofInt 2) (dk dt_X11_difference 9 rfl) (by decide) ?_
        refine jz_icmp_le 23 (dk dt_X11_difference 10 rfl) (by decide) r_x2 (by decide) H (fun H => ?_) (fun H => ?_)
        · refine j_aload_n (dk dt_X11_difference 13 rfl) rfl ?_
          refine jz_getO (kz := 9) (dk dt_X11_difference 14 rfl) fl_X11_74 rfl rfl rfl k_6 ?_
          refine j_iconst (v := Int32.ofInt 3) (dk dt_X11_difference 15 rfl) (by decide) ?_
          refine j_iload_n (dk dt_X11_difference 16 rfl) rfl ?_
          refine jz_imul (dk dt_X11_difference 17 rfl) ?_
          refine j_iload_n (dk dt_X11_difference 18 rfl) rfl ?_
          refine jz_iadd (dk dt_X11_difference 19 rfl) ?_
          obtain ⟨a_32, e_32, k_32, H⟩ := H
          obtain ⟨p_32, q_32, H⟩ := H
          refine jz_iald (dk dt_X11_difference 20 rfl) e_32 k_32 p_32 q_32 hw ?_
          exact j_ireturn (dk dt_X11_difference 21 rfl) rfl rfl ⟨_, rfl, (hw.1 _ _), rfl, H⟩
        · exact j_el (T_X11_difference_21  hw   H) trivial
def F_X7_forget  (t0 : Nat) (z : Z) (P : Z → Prop) : Prop :=
  (zK z t0 = 8 ∧ (∀ z_2, z_2 = wI z t0 2 0 → (∀ z_7, z_7 = wI z_2 t0 3 0 → P z_7)))
theorem T_X7_forget  {t0 : Nat} {z : Z} {P : Z → Prop}  (hw : Wz z)  (H : F_X7_forget t0 z P) : Con mX7_forget 1 0 0 [vr (some t0)] (cz z) (QZV P) := by
  refine con_of rfl (Nat.le_of_ble_eq_true rfl) (by decide) ?_
  show J mX7_forget 1 0 0 _ 0 [some (vr (some t0))] [] (cz z)
  unfold F_X7_forget at H
  refine j_aload_n (dk dt_X7_forget 0 rfl) rfl ?_
  refine j_iconst (v := Int32.ofInt 0) (dk dt_X7_forget 1 rfl) (by decide) ?_
  obtain ⟨k_2, H⟩ := H
  refine jz_putI (kz := 2) (dk dt_X7_forget 2 rfl) fl_X7_20 rfl rfl rfl rfl rfl k_2 hw (by decide) (fun w_2 => ?_)
  replace H := H _ rfl
  refine j_aload_n (dk dt_X7_forget 3 rfl) rfl ?_
  refine j_iconst (v := Int32.ofInt 0) (dk dt_X7_forget 4 rfl) (by decide) ?_
  refine jz_putI (kz := 3) (dk dt_X7_forget 5 rfl) fl_X7_24 rfl rfl rfl rfl rfl k_2 w_2 (by decide) (fun w_7 => ?_)
  replace H := H _ rfl
  exact j_return (dk dt_X7_forget 6 rfl) rfl ⟨_, rfl, rfl, w_7, H⟩
def F_X11_drop_44  (t0 : Nat) (z : Z) (c : Nat) (s : Nat) (P : Int → Z → Prop) : Prop :=
  (zK z t0 = 12 ∧ F_X11_head t0 z (fun x_45 => P x_45 z))
theorem T_X11_drop_44  {t0 : Nat} {z : Z} {c : Nat} {s : Nat} {P : Int → Z → Prop}  (hw : Wz z)   (H : F_X11_drop_44 t0 z c s P) : J mX11_drop 6 c s (nx (QZI P)) 44 [some (vr (some t0)), none] [] (cz z) := by
  unfold F_X11_drop_44 at H
  refine j_aload_n (dk dt_X11_drop 22 rfl) rfl ?_
  obtain ⟨k_45, H⟩ := H
  refine jz_callV0 (dk dt_X11_drop 23 rfl) vl_X11_249 rfl (T_X11_head hw H) k_45 rfl (by decide) (Nat.zero_le _) (Nat.zero_le _) (Nat.le_of_ble_eq_true rfl) (fun v_45 h_45 P_45 => ?_)
  obtain ⟨x_45, rfl, r_45, rfl, H⟩ := P_45
  dsimp only [rs]
  exact j_ireturn (dk dt_X11_drop 24 rfl) rfl rfl ⟨_, _, rfl, r_45, rfl, hw, H⟩
def F_X11_drop  (t0 : Nat) (z : Z) (c : Nat) (s : Nat) (P : Int → Z → Prop) : Prop :=
  (zK z t0 = 12 ∧ (∀ z_2, z_2 = wI z t0 13 (-1) → (∃ a_10, zO z_2 t0 4 = some a_10 ∧ zK z_2 a_10 = 4 ∧ (∀ z_10, z_10 = wI z_2 a_10 2 0 → (∃ a_17, zO z_10 t0 5 = some a_17 ∧ zK z_10 a_17 = 8 ∧ F_X7_forget a_17 z_10 (fun z_17 => (zK z_17 t0 = 12 ∧ F_X11_head t0 z_17 (fun x_25 => (∃ a_28, zO z_17 t0 2 = some a_28 ∧ zK z_17 a_28 = 3 ∧ F_X2_at a_28 x_25 z_17 (fun x_28 => (if x_28 = none then F_X11_drop_44 t0 z_17 c s P else (∃ a_38, x_28 = some a_38 ∧ zK z_17 a_38 = 7 ∧ (∃ c_38 s_38, c_38 ≤ c ∧ s_38 ≤ s ∧ F_X6_twin a_38 z_17 c_38 s_38 (fun x_38 z_38 => (zK z_38 t0 = 12 ∧ F_X11_show t0 x_38 z_38 (fun z_41 => F_X11_drop_44 t0 z_41 (c - c_38) (s - s_38) P))))))))))))))))
theorem T_X11_drop  {t0 : Nat} {z : Z} {c : Nat} {s : Nat} {P : Int → Z → Prop}  (hw : Wz z)  (H : F_X11_drop t0 z c s P) : Con mX11_drop 6 c s [vr (some t0)] (cz z) (QZI P) := by
  refine con_of rfl (Nat.le_of_ble_eq_true rfl) (by decide) ?_
  show J mX11_drop 6 c s _ 0 [some (vr (some t0)), none] [] (cz z)
  unfold F_X11_drop at H
  refine j_aload_n (dk dt_X11_drop 0 rfl) rfl ?_
  refine j_iconst (v := Int32.ofInt (-1)) (dk dt_X11_drop 1 rfl) (by decide) ?_
  obtain ⟨k_2, H⟩ := H
  refine jz_putI (kz := 13) (dk dt_X11_drop 2 rfl) fl_X11_77 rfl rfl rfl rfl rfl k_2 hw (by decide) (fun w_2 => ?_)
  replace H := H _ rfl
  refine j_aload_n (dk dt_X11_drop 3 rfl) rfl ?_
  refine jz_getO (kz := 4) (dk dt_X11_drop 4 rfl) fl_X11_46 rfl rfl rfl k_2 ?_
  refine j_iconst (v := Int32.ofInt 0) (dk dt_X11_drop 5 rfl) (by decide) ?_
  obtain ⟨a_10, e_10, k_10, H⟩ := H
  refine jz_putI (kz := 2) (dk dt_X11_drop 6 rfl) fl_X11_252 rfl rfl rfl rfl e_10 k_10 w_2 (by decide) (fun w_10 => ?_)
  replace H := H _ rfl
  refine j_aload_n (dk dt_X11_drop 7 rfl) rfl ?_
  refine jz_getO (kz := 5) (dk dt_X11_drop 8 rfl) fl_X11_53 rfl rfl rfl k_2 ?_
  obtain ⟨a_17, e_17, k_17, H⟩ := H
  refine jz_callV0 (dk dt_X11_drop 9 rfl) vl_X11_266 e_17 (T_X7_forget w_10 H) k_17 rfl (by decide) (Nat.zero_le _) (Nat.zero_le _) (Nat.le_of_ble_eq_true rfl) (fun v_17 h_17 P_17 => ?_)
  obtain ⟨z_17, rfl, rfl, w_17, H⟩ := P_17
  dsimp only [rs]
  refine j_aload_n (dk dt_X11_drop 10 rfl) rfl ?_
  obtain ⟨k_21, H⟩ := H
  refine jz_getO (kz := 2) (dk dt_X11_drop 11 rfl) fl_X11_26 rfl rfl rfl k_21 ?_
  refine j_aload_n (dk dt_X11_drop 12 rfl) rfl ?_
  refine jz_callV0 (dk dt_X11_drop 13 rfl) vl_X11_249 rfl (T_X11_head w_17 H) k_21 rfl (by decide) (Nat.zero_le _) (Nat.zero_le _) (Nat.le_of_ble_eq_true rfl) (fun v_25 h_25 P_25 => ?_)
  obtain ⟨x_25, rfl, r_25, rfl, H⟩ := P_25
  dsimp only [rs]
  obtain ⟨a_28, e_28, k_28, H⟩ := H
  refine jz_callV1 (dk dt_X11_drop 14 rfl) vl_X11_269 e_28 (T_X2_at r_25 w_17 H) k_28 rfl (by decide) (Nat.zero_le _) (Nat.zero_le _) (Nat.le_of_ble_eq_true rfl) (fun v_28 h_28 P_28 => ?_)
  obtain ⟨x_28, rfl, rfl, H⟩ := P_28
  dsimp only [rs]
  refine j_astore_n (dk dt_X11_drop 15 rfl) (by decide) ?_
  refine j_aload_n (dk dt_X11_drop 16 rfl) rfl ?_
  refine jz_ifnull 44 (dk dt_X11_drop 17 rfl) (by decide) H (fun H => ?_) (fun H => ?_)
  · exact j_el (T_X11_drop_44  w_17   H) (And.intro rfl trivial)
  · refine j_aload_n (dk dt_X11_drop 18 rfl) rfl ?_
    refine j_aload_n (dk dt_X11_drop 19 rfl) rfl ?_
    obtain ⟨a_38, e_38, k_38, H⟩ := H
    obtain ⟨c_38, s_38, hc_38, hs_38, H⟩ := H
    refine jz_callV0 (dk dt_X11_drop 20 rfl) vl_X11_100 e_38 (T_X6_twin w_17 H) k_38 rfl (by decide) hc_38 hs_38 (Nat.le_of_ble_eq_true rfl) (fun v_38 h_38 P_38 => ?_)
    obtain ⟨x_38, z_38, rfl, rfl, w_38, H⟩ := P_38
    dsimp only [rs]
    obtain ⟨k_41, H⟩ := H
    refine jz_callV1 (dk dt_X11_drop 21 rfl) vl_X11_230 rfl (T_X11_show w_38 H) k_41 rfl (by decide) (Nat.zero_le _) (Nat.zero_le _) (Nat.le_of_ble_eq_true rfl) (fun v_41 h_41 P_41 => ?_)
    obtain ⟨z_41, rfl, rfl, w_41, H⟩ := P_41
    dsimp only [rs]
    exact j_el (T_X11_drop_44  w_41   H) (And.intro rfl trivial)
def F_X11_end_15  (z : Z) (P : Int → Z → Prop) : Prop :=
  P 0 z
theorem T_X11_end_15  {z : Z} {P : Int → Z → Prop}  (hw : Wz z)   (H : F_X11_end_15 z P) : J mX11_end 1 0 0 (nx (QZI P)) 15 [none, none] [] (cz z) := by
  unfold F_X11_end_15 at H
  refine j_iconst (v := Int32.ofInt 0) (dk dt_X11_end 7 rfl) (by decide) ?_
  exact j_ireturn (dk dt_X11_end 8 rfl) rfl (nar_z (by decide)) ⟨_, _, rfl, (by decide), rfl, hw, H⟩
def F_X11_end  (t0 : Nat) (x1 : Int) (z : Z) (P : Int → Z → Prop) : Prop :=
  (if x1 < 0 then F_X11_end_15 z P else (zK z t0 = 12 ∧ (∃ a_9, zO z t0 0 = some a_9 ∧ zK z a_9 = 6 ∧ (if x1 ≤ zI z a_9 3 then (∀ z_22, z_22 = wI z a_9 3 x1 → P 1 z_22) else F_X11_end_15 z P))))
theorem T_X11_end  {t0 : Nat} {x1 : Int} {z : Z} {P : Int → Z → Prop} (r_x1 : R32 x1) (hw : Wz z)  (H : F_X11_end t0 x1 z P) : Con mX11_end 1 0 0 [vr (some t0), ii (x1)] (cz z) (QZI P) := by
  refine con_of rfl (Nat.le_of_ble_eq_true rfl) (by decide) ?_
  show J mX11_end 1 0 0 _ 0 [some (vr (some t0)), some (ii (x1))] [] (cz z)
  unfold F_X11_end at H
  refine j_iload_n (dk dt_X11_end 0 rfl) rfl ?_
  refine jz_if_lt 15 (dk dt_X11_end 1 rfl) (by decide) r_x1 H (fun H => ?_) (fun H => ?_)
  · exact j_el (T_X11_end_15  hw   H) trivial
  · refine j_iload_n (dk dt_X11_end 2 rfl) rfl ?_
    refine j_aload_n (dk dt_X11_end 3 rfl) rfl ?_
    obtain ⟨k_6, H⟩ := H
    refine jz_getO (kz := 0) (dk dt_X11_end 4 rfl) fl_X11_10 rfl rfl rfl k_6 ?_
    obtain ⟨a_9, e_9, k_9, H⟩ := H
    refine jz_getI (kz := 3) (dk dt_X11_end 5 rfl) fl_X11_108 rfl rfl e_9 k_9 ?_
    refine jz_icmp_le 17 (dk dt_X11_end 6 rfl) (by decide) r_x1 (hw.1 _ _) H (fun H => ?_) (fun H => ?_)
    · refine j_aload_n (dk dt_X11_end 9 rfl) rfl ?_
      refine jz_getO (kz := 0) (dk dt_X11_end 10 rfl) fl_X11_10 rfl rfl rfl k_6 ?_
      refine j_iload_n (dk dt_X11_end 11 rfl) rfl ?_
      refine jz_putI (kz := 3) (dk dt_X11_end 12 rfl) fl_X11_108 rfl rfl rfl rfl e_9 k_9 hw r_x1 (fun w_22 => ?_)
      replace H := H _ rfl
      refine j_iconst (v := Int32.ofInt 1) (dk dt_X11_end 13 rfl) (by decide) ?_
      exact j_ireturn (dk dt_X11_end 14 rfl) rfl (nar_z (by decide)) ⟨_, _, rfl, (by decide), rfl, w_22, H⟩
    · exact j_el (T_X11_end_15  hw   H) trivial
def F_X5_addPart_48  (z : Z) (c : Nat) (s : Nat) (P : Z → Prop) : Prop :=
  P z
theorem T_X5_addPart_48  {z : Z} {c : Nat} {s : Nat} {P : Z → Prop}  (hw : Wz z)   (H : F_X5_addPart_48 z c s P) : J mX5_addPart 5 c s (nx (QZV P)) 48 [none, none, none, none] [] (cz z) := by
  unfold F_X5_addPart_48 at H
  exact j_return (dk dt_X5_addPart 26 rfl) rfl ⟨_, rfl, rfl, hw, H⟩
def F_X5_addPart  (t0 : Nat) (x1 : Int) (x2 : Int) (x3 : Option Nat) (z : Z) (c : Nat) (s : Nat) (P : Z → Prop) : Prop :=
  (zK z t0 = 6 ∧ (if zI z t0 4 = 0 then (∃ a_15, zO z t0 1 = some a_15 ∧ zK z a_15 = 20 ∧ (if zN z a_15 ≤ zI z t0 10 then F_X5_addPart_48 z c s P else (1 ≤ c ∧ 9 ≤ s ∧ ∀ a_27, zK z a_27 = 0 → (∀ z_27, z_27 = nZ z a_27 5 0 → F_X4_init a_27 x1 x2 x3 z_27 (fun z_34 => (∃ a_37, zO z t0 1 = some a_37 ∧ zK z_34 a_37 = 20 ∧ (0 ≤ zI z t0 10 ∧ zI z t0 10 < zN z_34 a_37 ∧ ((∀ v, some a_27 = some v → zK z_34 v = 5) ∧ (∀ z_37, z_37 = wO z_34 a_37 (zI z t0 10) (some a_27) → (zK z_37 t0 = 6 ∧ (∀ z_45, z_45 = wI z_37 t0 10 (w32 (zI z_37 t0 10 + 1)) → F_X5_addPart_48 z_45 (c - 1) (s - 9) P))))))))))) else F_X5_addPart_48 z c s P))
theorem T_X5_addPart  {t0 : Nat} {x1 : Int} {x2 : Int} {x3 : Option Nat} {z : Z} {c : Nat} {s : Nat} {P : Z → Prop} (r_x1 : R32 x1) (r_x2 : R32 x2) (hw : Wz z)  (H : F_X5_addPart t0 x1 x2 x3 z c s P) : Con mX5_addPart 5 c s [vr (some t0), ii (x1), ii (x2), vr (x3)] (cz z) (QZV P) := by
  refine con_of rfl (Nat.le_of_ble_eq_true rfl) (by decide) ?_
  show J mX5_addPart 5 c s _ 0 [some (vr (some t0)), some (ii (x1)), some (ii (x2)), some (vr (x3))] [] (cz z)
  unfold F_X5_addPart at H
  refine j_aload_n (dk dt_X5_addPart 0 rfl) rfl ?_
  obtain ⟨k_1, H⟩ := H
  refine jz_getI (kz := 4) (dk dt_X5_addPart 1 rfl) fl_X5_36 rfl rfl rfl k_1 ?_
  refine jz_if_ne 48 (dk dt_X5_addPart 2 rfl) (by decide) (hw.1 _ _) H (fun H => ?_) (fun H => ?_)
  · refine j_aload_n (dk dt_X5_addPart 3 rfl) rfl ?_
    refine jz_getI (kz := 10) (dk dt_X5_addPart 4 rfl) fl_X5_109 rfl rfl rfl k_1 ?_
    refine j_aload_n (dk dt_X5_addPart 5 rfl) rfl ?_
    refine jz_getO (kz := 1) (dk dt_X5_addPart 6 rfl) fl_X5_17 rfl rfl rfl k_1 ?_
    obtain ⟨a_15, e_15, k_15, H⟩ := H
    refine jz_alen (t := 6) (dk dt_X5_addPart 7 rfl) e_15 k_15 (by decide) hw ?_
    refine jz_icmp_ge 48 (dk dt_X5_addPart 8 rfl) (by decide) (hw.1 _ _) (r32_len hw _) H (fun H => ?_) (fun H => ?_)
    · exact j_el (T_X5_addPart_48  hw   H) trivial
    · refine j_aload_n (dk dt_X5_addPart 9 rfl) rfl ?_
      refine jz_getO (kz := 1) (dk dt_X5_addPart 10 rfl) fl_X5_17 rfl rfl rfl k_1 ?_
      refine j_aload_n (dk dt_X5_addPart 11 rfl) rfl ?_
      refine jz_getI (kz := 10) (dk dt_X5_addPart 12 rfl) fl_X5_109 rfl rfl rfl k_1 ?_
      obtain ⟨hc_27, hs_27, H⟩ := H
      refine jz_new (dk dt_X5_addPart 13 rfl) cl_4 nl_X5_15 iw_4 zw_4 rfl hc_27 hs_27 hw (fun a_27 e_27 w_27 => ?_)
      replace H := H a_27 e_27
      replace H := H _ rfl
      refine j_dup (dk dt_X5_addPart 14 rfl) rfl ?_
      refine j_iload_n (dk dt_X5_addPart 15 rfl) rfl ?_
      refine j_iload_n (dk dt_X5_addPart 16 rfl) rfl ?_
      refine j_aload_n (dk dt_X5_addPart 17 rfl) rfl ?_
      refine jz_callI3 (dk dt_X5_addPart 18 rfl) il_X5_121 rfl (T_X4_init r_x1 r_x2 w_27 H) rfl (by decide) (Nat.zero_le _) (Nat.zero_le _) (Nat.le_of_ble_eq_true rfl) (fun v_34 h_34 P_34 => ?_)
      obtain ⟨z_34, rfl, rfl, w_34, H⟩ := P_34
      dsimp only [rs]
      obtain ⟨a_37, e_37, k_37, H⟩ := H
      obtain ⟨p_37, q_37, H⟩ := H
      obtain ⟨v_37, H⟩ := H
      refine jz_aast (t := 6) (dk dt_X5_addPart 19 rfl) e_37 k_37 (by decide) (by decide) p_37 q_37 w_34 v_37 (fun w_37 => ?_)
      replace H := H _ rfl
      refine j_aload_n (dk dt_X5_addPart 20 rfl) rfl ?_
      refine j_dup (dk dt_X5_addPart 21 rfl) rfl ?_
      obtain ⟨k_40, H⟩ := H
      refine jz_getI (kz := 10) (dk dt_X5_addPart 22 rfl) fl_X5_109 rfl rfl rfl k_40 ?_
      refine j_iconst (v := Int32.ofInt 1) (dk dt_X5_addPart 23 rfl) (by decide) ?_
      refine jz_iadd (dk dt_X5_addPart 24 rfl) ?_
      refine jz_putI (kz := 10) (dk dt_X5_addPart 25 rfl) fl_X5_109 rfl rfl rfl rfl rfl k_40 w_37 (r32_w _) (fun w_45 => ?_)
      replace H := H _ rfl
      exact j_el (T_X5_addPart_48  w_45   H) trivial
  · exact j_el (T_X5_addPart_48  hw   H) trivial
def F_X5_fail_17  (z : Z) (P : Z → Prop) : Prop :=
  P z
theorem T_X5_fail_17  {z : Z} {P : Z → Prop}  (hw : Wz z)   (H : F_X5_fail_17 z P) : J mX5_fail 1 0 0 (nx (QZV P)) 17 [none, none, none] [] (cz z) := by
  unfold F_X5_fail_17 at H
  exact j_return (dk dt_X5_fail 9 rfl) rfl ⟨_, rfl, rfl, hw, H⟩
def F_X5_fail  (t0 : Nat) (x1 : Int) (x2 : Int) (z : Z) (P : Z → Prop) : Prop :=
  (zK z t0 = 6 ∧ (if zI z t0 4 = 0 then (∀ z_9, z_9 = wI z t0 4 x1 → (∀ z_14, z_14 = wI z_9 t0 5 x2 → F_X5_fail_17 z_14 P)) else F_X5_fail_17 z P))
theorem T_X5_fail  {t0 : Nat} {x1 : Int} {x2 : Int} {z : Z} {P : Z → Prop} (r_x1 : R32 x1) (r_x2 : R32 x2) (hw : Wz z)  (H : F_X5_fail t0 x1 x2 z P) : Con mX5_fail 1 0 0 [vr (some t0), ii (x1), ii (x2)] (cz z) (QZV P) := by
  refine con_of rfl (Nat.le_of_ble_eq_true rfl) (by decide) ?_
  show J mX5_fail 1 0 0 _ 0 [some (vr (some t0)), some (ii (x1)), some (ii (x2))] [] (cz z)
  unfold F_X5_fail at H
  refine j_aload_n (dk dt_X5_fail 0 rfl) rfl ?_
  obtain ⟨k_1, H⟩ := H
  refine jz_getI (kz := 4) (dk dt_X5_fail 1 rfl) fl_X5_36 rfl rfl rfl k_1 ?_
  refine jz_if_ne 17 (dk dt_X5_fail 2 rfl) (by decide) (hw.1 _ _) H (fun H => ?_) (fun H => ?_)
  · refine j_aload_n (dk dt_X5_fail 3 rfl) rfl ?_
    refine j_iload_n (dk dt_X5_fail 4 rfl) rfl ?_
    refine jz_putI (kz := 4) (dk dt_X5_fail 5 rfl) fl_X5_36 rfl rfl rfl rfl rfl k_1 hw r_x1 (fun w_9 => ?_)
    replace H := H _ rfl
    refine j_aload_n (dk dt_X5_fail 6 rfl) rfl ?_
    refine j_iload_n (dk dt_X5_fail 7 rfl) rfl ?_
    refine jz_putI (kz := 5) (dk dt_X5_fail 8 rfl) fl_X5_39 rfl rfl rfl rfl rfl k_1 w_9 r_x2 (fun w_14 => ?_)
    replace H := H _ rfl
    exact j_el (T_X5_fail_17  w_14   H) trivial
  · exact j_el (T_X5_fail_17  hw   H) trivial
def F_X11_isLetter_17  (s0 : Int) (P : Int → Prop) : Prop :=
  (Z1 s0 ∧ P s0)
theorem T_X11_isLetter_17  {s0 : Int} {P : Int → Prop} {h : Hp} (r_s0 : R32 s0)    (H : F_X11_isLetter_17 s0 P) : J mX11_isLetter 1 0 0 (nx (QPI h P)) 17 [none] [ii (s0)] h := by
  unfold F_X11_isLetter_17 at H
  obtain ⟨hz_, H⟩ := H
  exact j_ireturn (dk dt_X11_isLetter 9 rfl) rfl (nar_z hz_) ⟨_, rfl, r_s0, rfl, H⟩
def F_X11_isLetter_16  (P : Int → Prop) : Prop :=
  F_X11_isLetter_17 0 P
theorem T_X11_isLetter_16  {P : Int → Prop} {h : Hp}     (H : F_X11_isLetter_16 P) : J mX11_isLetter 1 0 0 (nx (QPI h P)) 16 [none] [] h := by
  unfold F_X11_isLetter_16 at H
  refine j_iconst (v := Int32.ofInt 0) (dk dt_X11_isLetter 8 rfl) (by decide) ?_
  exact j_el (T_X11_isLetter_17 (by decide)    H) trivial
def F_X11_isLetter  (x0 : Int) (P : Int → Prop) : Prop :=
  (if x0 < 65 then F_X11_isLetter_16  P else (if 90 < x0 then F_X11_isLetter_16  P else F_X11_isLetter_17 1 P))
theorem T_X11_isLetter  {x0 : Int} {P : Int → Prop} {h : Hp} (r_x0 : R32 x0)   (H : F_X11_isLetter x0 P) : Con mX11_isLetter 1 0 0 [ii (x0)] h (QPI h P) := by
  refine con_of rfl (Nat.le_of_ble_eq_true rfl) (by decide) ?_
  show J mX11_isLetter 1 0 0 _ 0 [some (ii (x0))] [] h
  unfold F_X11_isLetter at H
  refine j_iload_n (dk dt_X11_isLetter 0 rfl) rfl ?_
  refine j_bipush (v := Int32.ofInt 65) (dk dt_X11_isLetter 1 rfl) (by decide) ?_
  refine jz_icmp_lt 16 (dk dt_X11_isLetter 2 rfl) (by decide) r_x0 (by decide) H (fun H => ?_) (fun H => ?_)
  · exact j_el (T_X11_isLetter_16     H) trivial
  · refine j_iload_n (dk dt_X11_isLetter 3 rfl) rfl ?_
    refine j_bipush (v := Int32.ofInt 90) (dk dt_X11_isLetter 4 rfl) (by decide) ?_
    refine jz_icmp_gt 16 (dk dt_X11_isLetter 5 rfl) (by decide) r_x0 (by decide) H (fun H => ?_) (fun H => ?_)
    · exact j_el (T_X11_isLetter_16     H) trivial
    · refine j_iconst (v := Int32.ofInt 1) (dk dt_X11_isLetter 6 rfl) (by decide) ?_
      refine j_goto 17 (dk dt_X11_isLetter 7 rfl) (by decide) ?_
      exact j_el (T_X11_isLetter_17 (by decide)    H) trivial
def F_X5_byteAt_22  (s0 : Int) (z : Z) (P : Int → Prop) : Prop :=
  P s0
theorem T_X5_byteAt_22  {s0 : Int} {z : Z} {P : Int → Prop} (r_s0 : R32 s0) (hw : Wz z)   (H : F_X5_byteAt_22 s0 z P) : J mX5_byteAt 1 0 0 (nx (QPI (cz z) P)) 22 [none, none] [ii (s0)] (cz z) := by
  unfold F_X5_byteAt_22 at H
  exact j_ireturn (dk dt_X5_byteAt 12 rfl) rfl rfl ⟨_, rfl, r_s0, rfl, H⟩
def F_X5_byteAt_21  (z : Z) (P : Int → Prop) : Prop :=
  F_X5_byteAt_22 0 z P
theorem T_X5_byteAt_21  {z : Z} {P : Int → Prop}  (hw : Wz z)   (H : F_X5_byteAt_21 z P) : J mX5_byteAt 1 0 0 (nx (QPI (cz z) P)) 21 [none, none] [] (cz z) := by
  unfold F_X5_byteAt_21 at H
  refine j_iconst (v := Int32.ofInt 0) (dk dt_X5_byteAt 11 rfl) (by decide) ?_
  exact j_el (T_X5_byteAt_22 (by decide) hw   H) trivial
def F_X5_byteAt  (t0 : Nat) (x1 : Int) (z : Z) (P : Int → Prop) : Prop :=
  (if x1 < 0 then F_X5_byteAt_21 z P else (zK z t0 = 6 ∧ (if zI z t0 8 ≤ x1 then F_X5_byteAt_21 z P else (∃ a_17, zO z t0 0 = some a_17 ∧ zK z a_17 = 14 ∧ (0 ≤ x1 ∧ x1 < zN z a_17 ∧ F_X5_byteAt_22 (zI z a_17 x1) z P)))))
theorem T_X5_byteAt  {t0 : Nat} {x1 : Int} {z : Z} {P : Int → Prop} (r_x1 : R32 x1) (hw : Wz z)  (H : F_X5_byteAt t0 x1 z P) : Con mX5_byteAt 1 0 0 [vr (some t0), ii (x1)] (cz z) (QPI (cz z) P) := by
  refine con_of rfl (Nat.le_of_ble_eq_true rfl) (by decide) ?_
  show J mX5_byteAt 1 0 0 _ 0 [some (vr (some t0)), some (ii (x1))] [] (cz z)
  unfold F_X5_byteAt at H
  refine j_iload_n (dk dt_X5_byteAt 0 rfl) rfl ?_
  refine jz_if_lt 21 (dk dt_X5_byteAt 1 rfl) (by decide) r_x1 H (fun H => ?_) (fun H => ?_)
  · exact j_el (T_X5_byteAt_21  hw   H) trivial
  · refine j_iload_n (dk dt_X5_byteAt 2 rfl) rfl ?_
    refine j_aload_n (dk dt_X5_byteAt 3 rfl) rfl ?_
    obtain ⟨k_6, H⟩ := H
    refine jz_getI (kz := 8) (dk dt_X5_byteAt 4 rfl) fl_X5_42 rfl rfl rfl k_6 ?_
    refine jz_icmp_ge 21 (dk dt_X5_byteAt 5 rfl) (by decide) r_x1 (hw.1 _ _) H (fun H => ?_) (fun H => ?_)
    · exact j_el (T_X5_byteAt_21  hw   H) trivial
    · refine j_aload_n (dk dt_X5_byteAt 6 rfl) rfl ?_
      refine jz_getO (kz := 0) (dk dt_X5_byteAt 7 rfl) fl_X5_9 rfl rfl rfl k_6 ?_
      refine j_iload_n (dk dt_X5_byteAt 8 rfl) rfl ?_
      obtain ⟨a_17, e_17, k_17, H⟩ := H
      obtain ⟨p_17, q_17, H⟩ := H
      refine jz_bald (dk dt_X5_byteAt 9 rfl) e_17 k_17 p_17 q_17 hw ?_
      refine j_goto 22 (dk dt_X5_byteAt 10 rfl) (by decide) ?_
      exact j_el (T_X5_byteAt_22 (hw.1 _ _) hw   H) trivial
def F_X5_isCorner_56  (z : Z) (P : Int → Z → Prop) : Prop :=
  P 0 z
theorem T_X5_isCorner_56  {z : Z} {P : Int → Z → Prop}  (hw : Wz z)   (H : F_X5_isCorner_56 z P) : J mX5_isCorner 2 0 0 (nx (QZI P)) 56 [none, none, none] [] (cz z) := by
  unfold F_X5_isCorner_56 at H
  refine j_iconst (v := Int32.ofInt 0) (dk dt_X5_isCorner 31 rfl) (by decide) ?_
  exact j_ireturn (dk dt_X5_isCorner 32 rfl) rfl (nar_z (by decide)) ⟨_, _, rfl, (by decide), rfl, hw, H⟩
def F_X5_isCorner_178  (s0 : Int) (z : Z) (P : Int → Z → Prop) : Prop :=
  (Z1 s0 ∧ P s0 z)
theorem T_X5_isCorner_178  {s0 : Int} {z : Z} {P : Int → Z → Prop} (r_s0 : R32 s0) (hw : Wz z)   (H : F_X5_isCorner_178 s0 z P) : J mX5_isCorner 2 0 0 (nx (QZI P)) 178 [none, none, none] [ii (s0)] (cz z) := by
  unfold F_X5_isCorner_178 at H
  obtain ⟨hz_, H⟩ := H
  exact j_ireturn (dk dt_X5_isCorner 95 rfl) rfl (nar_z hz_) ⟨_, _, rfl, r_s0, rfl, hw, H⟩
def F_X5_isCorner_177  (z : Z) (P : Int → Z → Prop) : Prop :=
  F_X5_isCorner_178 0 z P
theorem T_X5_isCorner_177  {z : Z} {P : Int → Z → Prop}  (hw : Wz z)   (H : F_X5_isCorner_177 z P) : J mX5_isCorner 2 0 0 (nx (QZI P)) 177 [none, none, none] [] (cz z) := by
  unfold F_X5_isCorner_177 at H
  refine j_iconst (v := Int32.ofInt 0) (dk dt_X5_isCorner 94 rfl) (by decide) ?_
  exact j_el (T_X5_isCorner_178 (by decide) hw   H) trivial
def F_X5_isCorner_146  (t0 : Nat) (x2 : Int) (z : Z) (P : Int → Z → Prop) : Prop :=
  (zK z t0 = 6 ∧ (∀ z_148, z_148 = wI z t0 16 x2 → F_X5_byteAt t0 x2 z_148 (fun x_153 => F_X11_isDigit x_153 (fun x_156 => (if x_156 = 0 then F_X5_byteAt t0 x2 z_148 (fun x_164 => F_X11_isLetter x_164 (fun x_167 => (if x_167 = 0 then F_X5_isCorner_178 1 z_148 P else F_X5_isCorner_177 z_148 P))) else F_X5_isCorner_177 z_148 P)))))
theorem T_X5_isCorner_146  {t0 : Nat} {x2 : Int} {z : Z} {P : Int → Z → Prop} (r_x2 : R32 x2) (hw : Wz z)   (H : F_X5_isCorner_146 t0 x2 z P) : J mX5_isCorner 2 0 0 (nx (QZI P)) 146 [some (vr (some t0)), none, some (ii (x2))] [] (cz z) := by
  unfold F_X5_isCorner_146 at H
  refine j_aload_n (dk dt_X5_isCorner 79 rfl) rfl ?_
  refine j_iload_n (dk dt_X5_isCorner 80 rfl) rfl ?_
  obtain ⟨k_148, H⟩ := H
  refine jz_putI (kz := 16) (dk dt_X5_isCorner 81 rfl) fl_X5_200 rfl rfl rfl rfl rfl k_148 hw r_x2 (fun w_148 => ?_)
  replace H := H _ rfl
  refine j_aload_n (dk dt_X5_isCorner 82 rfl) rfl ?_
  refine j_iload_n (dk dt_X5_isCorner 83 rfl) rfl ?_
  refine jz_callV1 (dk dt_X5_isCorner 84 rfl) vl_X5_146 rfl (T_X5_byteAt r_x2 w_148 H) k_148 rfl (by decide) (Nat.zero_le _) (Nat.zero_le _) (Nat.le_of_ble_eq_true rfl) (fun v_153 h_153 P_153 => ?_)
  obtain ⟨x_153, rfl, r_153, rfl, H⟩ := P_153
  dsimp only [rs]
  refine j_callSN1 (dk dt_X5_isCorner 85 rfl) snl_X5_102 (T_X11_isDigit r_153 H) rfl (by decide) (Nat.zero_le _) (Nat.zero_le _) (Nat.le_of_ble_eq_true rfl) (fun v_156 h_156 P_156 => ?_)
  obtain ⟨x_156, rfl, r_156, rfl, H⟩ := P_156
  dsimp only [rs]
  refine jz_if_ne 177 (dk dt_X5_isCorner 86 rfl) (by decide) r_156 H (fun H => ?_) (fun H => ?_)
  · refine j_aload_n (dk dt_X5_isCorner 87 rfl) rfl ?_
    refine j_iload_n (dk dt_X5_isCorner 88 rfl) rfl ?_
    refine jz_callV1 (dk dt_X5_isCorner 89 rfl) vl_X5_146 rfl (T_X5_byteAt r_x2 w_148 H) k_148 rfl (by decide) (Nat.zero_le _) (Nat.zero_le _) (Nat.le_of_ble_eq_true rfl) (fun v_164 h_164 P_164 => ?_)
    obtain ⟨x_164, rfl, r_164, rfl, H⟩ := P_164
    dsimp only [rs]
    refine j_callSN1 (dk dt_X5_isCorner 90 rfl) snl_X5_179 (T_X11_isLetter r_164 H) rfl (by decide) (Nat.zero_le _) (Nat.zero_le _) (Nat.le_of_ble_eq_true rfl) (fun v_167 h_167 P_167 => ?_)
    obtain ⟨x_167, rfl, r_167, rfl, H⟩ := P_167
    dsimp only [rs]
    refine jz_if_ne 177 (dk dt_X5_isCorner 91 rfl) (by decide) r_167 H (fun H => ?_) (fun H => ?_)
    · refine j_iconst (v := Int32.ofInt 1) (dk dt_X5_isCorner 92 rfl) (by decide) ?_
      refine j_goto 178 (dk dt_X5_isCorner 93 rfl) (by decide) ?_
      exact j_el (T_X5_isCorner_178 (by decide) w_148   H) trivial
    · exact j_el (T_X5_isCorner_177  w_148   H) trivial
  · exact j_el (T_X5_isCorner_177  w_148   H) trivial
def F_X5_isCorner_84  (t0 : Nat) (x2 : Int) (z : Z) (P : Int → Z → Prop) : Prop :=
  (zK z t0 = 6 ∧ F_X5_byteAt t0 x2 z (fun x_86 => F_X11_isDigit x_86 (fun x_89 => (if x_89 = 0 then P 0 z else F_X5_byteAt t0 x2 z (fun x_100 => (∀ z_106, z_106 = wI z t0 13 (w32 (x_100 - 48)) → F_X5_byteAt t0 (w32 (x2 + 1)) z_106 (fun x_114 => F_X11_isDigit x_114 (fun x_117 => (if x_117 = 0 then F_X5_isCorner_146 t0 (w32 (x2 + 1)) z_106 P else F_X5_byteAt t0 (w32 (x2 + 1)) z_106 (fun x_133 => (∀ z_140, z_140 = wI z_106 t0 13 (w32 ((w32 (w32 ((zI z_106 t0 13) * 10) + x_133)) - 48)) → F_X5_isCorner_146 t0 (w32 (w32 (x2 + 1) + 1)) z_140 P)))))))))))
theorem T_X5_isCorner_84  {t0 : Nat} {x2 : Int} {z : Z} {P : Int → Z → Prop} (r_x2 : R32 x2) (hw : Wz z)   (H : F_X5_isCorner_84 t0 x2 z P) : J mX5_isCorner 2 0 0 (nx (QZI P)) 84 [some (vr (some t0)), none, some (ii (x2))] [] (cz z) := by
  unfold F_X5_isCorner_84 at H
  refine j_aload_n (dk dt_X5_isCorner 46 rfl) rfl ?_
  refine j_iload_n (dk dt_X5_isCorner 47 rfl) rfl ?_
  obtain ⟨k_86, H⟩ := H
  refine jz_callV1 (dk dt_X5_isCorner 48 rfl) vl_X5_146 rfl (T_X5_byteAt r_x2 hw H) k_86 rfl (by decide) (Nat.zero_le _) (Nat.zero_le _) (Nat.le_of_ble_eq_true rfl) (fun v_86 h_86 P_86 => ?_)
  obtain ⟨x_86, rfl, r_86, rfl, H⟩ := P_86
  dsimp only [rs]
  refine j_callSN1 (dk dt_X5_isCorner 49 rfl) snl_X5_102 (T_X11_isDigit r_86 H) rfl (by decide) (Nat.zero_le _) (Nat.zero_le _) (Nat.le_of_ble_eq_true rfl) (fun v_89 h_89 P_89 => ?_)
  obtain ⟨x_89, rfl, r_89, rfl, H⟩ := P_89
  dsimp only [rs]
  refine jz_if_ne 97 (dk dt_X5_isCorner 50 rfl) (by decide) r_89 H (fun H => ?_) (fun H => ?_)
  · refine j_iconst (v := Int32.ofInt 0) (dk dt_X5_isCorner 51 rfl) (by decide) ?_
    exact j_ireturn (dk dt_X5_isCorner 52 rfl) rfl (nar_z (by decide)) ⟨_, _, rfl, (by decide), rfl, hw, H⟩
  · refine j_aload_n (dk dt_X5_isCorner 53 rfl) rfl ?_
    refine j_aload_n (dk dt_X5_isCorner 54 rfl) rfl ?_
    refine j_iload_n (dk dt_X5_isCorner 55 rfl) rfl ?_
    refine jz_callV1 (dk dt_X5_isCorner 56 rfl) vl_X5_146 rfl (T_X5_byteAt r_x2 hw H) k_86 rfl (by decide) (Nat.zero_le _) (Nat.zero_le _) (Nat.le_of_ble_eq_true rfl) (fun v_100 h_100 P_100 => ?_)
    obtain ⟨x_100, rfl, r_100, rfl, H⟩ := P_100
    dsimp only [rs]
    refine j_bipush (v := Int32.ofInt 48) (dk dt_X5_isCorner 57 rfl) (by decide) ?_
    refine jz_isub (dk dt_X5_isCorner 58 rfl) ?_
    refine jz_putI (kz := 13) (dk dt_X5_isCorner 59 rfl) fl_X5_197 rfl rfl rfl rfl rfl k_86 hw (r32_w _) (fun w_106 => ?_)
    replace H := H _ rfl
    refine jz_iinc (dk dt_X5_isCorner 60 rfl) rfl ?_
    refine j_aload_n (dk dt_X5_isCorner 61 rfl) rfl ?_
    refine j_iload_n (dk dt_X5_isCorner 62 rfl) rfl ?_
    refine jz_callV1 (dk dt_X5_isCorner 63 rfl) vl_X5_146 rfl (T_X5_byteAt (r32_w _) w_106 H) k_86 rfl (by decide) (Nat.zero_le _) (Nat.zero_le _) (Nat.le_of_ble_eq_true rfl) (fun v_114 h_114 P_114 => ?_)
    obtain ⟨x_114, rfl, r_114, rfl, H⟩ := P_114
    dsimp only [rs]
    refine j_callSN1 (dk dt_X5_isCorner 64 rfl) snl_X5_102 (T_X11_isDigit r_114 H) rfl (by decide) (Nat.zero_le _) (Nat.zero_le _) (Nat.le_of_ble_eq_true rfl) (fun v_117 h_117 P_117 => ?_)
    obtain ⟨x_117, rfl, r_117, rfl, H⟩ := P_117
    dsimp only [rs]
    refine jz_if_eq 146 (dk dt_X5_isCorner 65 rfl) (by decide) r_117 H (fun H => ?_) (fun H => ?_)
    · exact j_el (T_X5_isCorner_146 (r32_w _) w_106   H) (And.intro rfl (And.intro rfl trivial))
    · refine j_aload_n (dk dt_X5_isCorner 66 rfl) rfl ?_
      refine j_aload_n (dk dt_X5_isCorner 67 rfl) rfl ?_
      refine jz_getI (kz := 13) (dk dt_X5_isCorner 68 rfl) fl_X5_197 rfl rfl rfl k_86 ?_
      refine j_bipush (v := Int32.ofInt 10) (dk dt_X5_isCorner 69 rfl) (by decide) ?_
      refine jz_imul (dk dt_X5_isCorner 70 rfl) ?_
      refine j_aload_n (dk dt_X5_isCorner 71 rfl) rfl ?_
      refine j_iload_n (dk dt_X5_isCorner 72 rfl) rfl ?_
      refine jz_callV1 (dk dt_X5_isCorner 73 rfl) vl_X5_146 rfl (T_X5_byteAt (r32_w _) w_106 H) k_86 rfl (by decide) (Nat.zero_le _) (Nat.zero_le _) (Nat.le_of_ble_eq_true rfl) (fun v_133 h_133 P_133 => ?_)
      obtain ⟨x_133, rfl, r_133, rfl, H⟩ := P_133
      dsimp only [rs]
      refine jz_iadd (dk dt_X5_isCorner 74 rfl) ?_
      refine j_bipush (v := Int32.ofInt 48) (dk dt_X5_isCorner 75 rfl) (by decide) ?_
      refine jz_isub (dk dt_X5_isCorner 76 rfl) ?_
      refine jz_putI (kz := 13) (dk dt_X5_isCorner 77 rfl) fl_X5_197 rfl rfl rfl rfl rfl k_86 w_106 (r32_w _) (fun w_140 => ?_)
      replace H := H _ rfl
      refine jz_iinc (dk dt_X5_isCorner 78 rfl) rfl ?_
      exact j_el (T_X5_isCorner_146 (r32_w _) w_140   H) (And.intro rfl (And.intro rfl trivial))
def F_X5_isCorner_25  (t0 : Nat) (x2 : Int) (z : Z) (P : Int → Z → Prop) : Prop :=
  (zK z t0 = 6 ∧ F_X5_byteAt t0 x2 z (fun x_28 => (∀ z_36, z_36 = wI z t0 14 (w32 (w32 (x_28 - 65) + 1)) → (if zI z_36 t0 14 < 1 then F_X5_isCorner_56 z_36 P else (if zI z_36 t0 14 ≤ 10 then F_X5_byteAt t0 (w32 (x2 + 1)) z_36 (fun x_63 => (if x_63 = 36 then (∀ z_78, z_78 = wI z_36 t0 15 (bOr (zI z_36 t0 15) 1) → F_X5_isCorner_84 t0 (w32 (w32 (x2 + 1) + 1)) z_78 P) else F_X5_isCorner_84 t0 (w32 (x2 + 1)) z_36 P)) else F_X5_isCorner_56 z_36 P)))))
theorem T_X5_isCorner_25  {t0 : Nat} {x2 : Int} {z : Z} {P : Int → Z → Prop} (r_x2 : R32 x2) (hw : Wz z)   (H : F_X5_isCorner_25 t0 x2 z P) : J mX5_isCorner 2 0 0 (nx (QZI P)) 25 [some (vr (some t0)), none, some (ii (x2))] [] (cz z) := by
  unfold F_X5_isCorner_25 at H
  refine j_aload_n (dk dt_X5_isCorner 14 rfl) rfl ?_
  refine j_aload_n (dk dt_X5_isCorner 15 rfl) rfl ?_
  refine j_iload_n (dk dt_X5_isCorner 16 rfl) rfl ?_
  obtain ⟨k_28, H⟩ := H
  refine jz_callV1 (dk dt_X5_isCorner 17 rfl) vl_X5_146 rfl (T_X5_byteAt r_x2 hw H) k_28 rfl (by decide) (Nat.zero_le _) (Nat.zero_le _) (Nat.le_of_ble_eq_true rfl) (fun v_28 h_28 P_28 => ?_)
  obtain ⟨x_28, rfl, r_28, rfl, H⟩ := P_28
  dsimp only [rs]
  refine j_bipush (v := Int32.ofInt 65) (dk dt_X5_isCorner 18 rfl) (by decide) ?_
  refine jz_isub (dk dt_X5_isCorner 19 rfl) ?_
  refine j_iconst (v := Int32.ofInt 1) (dk dt_X5_isCorner 20 rfl) (by decide) ?_
  refine jz_iadd (dk dt_X5_isCorner 21 rfl) ?_
  refine jz_putI (kz := 14) (dk dt_X5_isCorner 22 rfl) fl_X5_194 rfl rfl rfl rfl rfl k_28 hw (r32_w _) (fun w_36 => ?_)
  replace H := H _ rfl
  refine j_aload_n (dk dt_X5_isCorner 23 rfl) rfl ?_
  refine jz_getI (kz := 14) (dk dt_X5_isCorner 24 rfl) fl_X5_194 rfl rfl rfl k_28 ?_
  refine j_iconst (v := Int32.ofInt 1) (dk dt_X5_isCorner 25 rfl) (by decide) ?_
  refine jz_icmp_lt 56 (dk dt_X5_isCorner 26 rfl) (by decide) (w_36.1 _ _) (by decide) H (fun H => ?_) (fun H => ?_)
  · exact j_el (T_X5_isCorner_56  w_36   H) trivial
  · refine j_aload_n (dk dt_X5_isCorner 27 rfl) rfl ?_
    refine jz_getI (kz := 14) (dk dt_X5_isCorner 28 rfl) fl_X5_194 rfl rfl rfl k_28 ?_
    refine j_bipush (v := Int32.ofInt 10) (dk dt_X5_isCorner 29 rfl) (by decide) ?_
    refine jz_icmp_le 58 (dk dt_X5_isCorner 30 rfl) (by decide) (w_36.1 _ _) (by decide) H (fun H => ?_) (fun H => ?_)
    · refine jz_iinc (dk dt_X5_isCorner 33 rfl) rfl ?_
      refine j_aload_n (dk dt_X5_isCorner 34 rfl) rfl ?_
      refine j_iload_n (dk dt_X5_isCorner 35 rfl) rfl ?_
      refine jz_callV1 (dk dt_X5_isCorner 36 rfl) vl_X5_146 rfl (T_X5_byteAt (r32_w _) w_36 H) k_28 rfl (by decide) (Nat.zero_le _) (Nat.zero_le _) (Nat.le_of_ble_eq_true rfl) (fun v_63 h_63 P_63 => ?_)
      obtain ⟨x_63, rfl, r_63, rfl, H⟩ := P_63
      dsimp only [rs]
      refine j_bipush (v := Int32.ofInt 36) (dk dt_X5_isCorner 37 rfl) (by decide) ?_
      refine jz_icmp_ne 84 (dk dt_X5_isCorner 38 rfl) (by decide) r_63 (by decide) H (fun H => ?_) (fun H => ?_)
      · refine j_aload_n (dk dt_X5_isCorner 39 rfl) rfl ?_
        refine j_dup (dk dt_X5_isCorner 40 rfl) rfl ?_
        refine jz_getI (kz := 15) (dk dt_X5_isCorner 41 rfl) fl_X5_191 rfl rfl rfl k_28 ?_
        refine j_iconst (v := Int32.ofInt 1) (dk dt_X5_isCorner 42 rfl) (by decide) ?_
        refine jz_ior (dk dt_X5_isCorner 43 rfl) ?_
        refine jz_putI (kz := 15) (dk dt_X5_isCorner 44 rfl) fl_X5_191 rfl rfl rfl rfl rfl k_28 w_36 (r32_t _) (fun w_78 => ?_)
        replace H := H _ rfl
        refine jz_iinc (dk dt_X5_isCorner 45 rfl) rfl ?_
        exact j_el (T_X5_isCorner_84 (r32_w _) w_78   H) (And.intro rfl (And.intro rfl trivial))
      · exact j_el (T_X5_isCorner_84 (r32_w _) w_36   H) (And.intro rfl (And.intro rfl trivial))
    · exact j_el (T_X5_isCorner_56  w_36   H) trivial
def F_X5_isCorner  (t0 : Nat) (x1 : Int) (z : Z) (P : Int → Z → Prop) : Prop :=
  (zK z t0 = 6 ∧ (∀ z_4, z_4 = wI z t0 15 0 → F_X5_byteAt t0 x1 z_4 (fun x_9 => (if x_9 = 36 then (∀ z_19, z_19 = wI z_4 t0 15 2 → F_X5_isCorner_25 t0 (w32 (x1 + 1)) z_19 P) else F_X5_isCorner_25 t0 x1 z_4 P))))
theorem T_X5_isCorner  {t0 : Nat} {x1 : Int} {z : Z} {P : Int → Z → Prop} (r_x1 : R32 x1) (hw : Wz z)  (H : F_X5_isCorner t0 x1 z P) : Con mX5_isCorner 2 0 0 [vr (some t0), ii (x1)] (cz z) (QZI P) := by
  refine con_of rfl (Nat.le_of_ble_eq_true rfl) (by decide) ?_
  show J mX5_isCorner 2 0 0 _ 0 [some (vr (some t0)), some (ii (x1)), none] [] (cz z)
  unfold F_X5_isCorner at H
  refine j_iload_n (dk dt_X5_isCorner 0 rfl) rfl ?_
  refine j_istore_n (dk dt_X5_isCorner 1 rfl) (by decide) ?_
  refine j_aload_n (dk dt_X5_isCorner 2 rfl) rfl ?_
  refine j_iconst (v := Int32.ofInt 0) (dk dt_X5_isCorner 3 rfl) (by decide) ?_
  obtain ⟨k_4, H⟩ := H
  refine jz_putI (kz := 15) (dk dt_X5_isCorner 4 rfl) fl_X5_191 rfl rfl rfl rfl rfl k_4 hw (by decide) (fun w_4 => ?_)
  replace H := H _ rfl
  refine j_aload_n (dk dt_X5_isCorner 5 rfl) rfl ?_
  refine j_iload_n (dk dt_X5_isCorner 6 rfl) rfl ?_
  refine jz_callV1 (dk dt_X5_isCorner 7 rfl) vl_X5_146 rfl (T_X5_byteAt r_x1 w_4 H) k_4 rfl (by decide) (Nat.zero_le _) (Nat.zero_le _) (Nat.le_of_ble_eq_true rfl) (fun v_9 h_9 P_9 => ?_)
  obtain ⟨x_9, rfl, r_9, rfl, H⟩ := P_9
  dsimp only [rs]
  refine j_bipush (v := Int32.ofInt 36) (dk dt_X5_isCorner 8 rfl) (by decide) ?_
  refine jz_icmp_ne 25 (dk dt_X5_isCorner 9 rfl) (by decide) r_9 (by decide) H (fun H => ?_) (fun H => ?_)
  · refine j_aload_n (dk dt_X5_isCorner 10 rfl) rfl ?_
    refine j_iconst (v := Int32.ofInt 2) (dk dt_X5_isCorner 11 rfl) (by decide) ?_
    refine jz_putI (kz := 15) (dk dt_X5_isCorner 12 rfl) fl_X5_191 rfl rfl rfl rfl rfl k_4 w_4 (by decide) (fun w_19 => ?_)
    replace H := H _ rfl
    refine jz_iinc (dk dt_X5_isCorner 13 rfl) rfl ?_
    exact j_el (T_X5_isCorner_25 (r32_w _) w_19   H) (And.intro rfl (And.intro rfl trivial))
  · exact j_el (T_X5_isCorner_25 r_x1 w_4   H) (And.intro rfl (And.intro rfl trivial))
def L_X5_readVersion_55  (t0 : Nat) (x1 : Option Nat) (x2 : Int) (x3 : Int) (z : Z) (P : (Int × Z) ⊕ ((Int × Z) ⊕ (Z)) → Prop) : Prop :=
  (zK z t0 = 6 ∧ (if zI z t0 8 ≤ zI z t0 9 then P (.inr (.inl (x3, z))) else (∃ a_74, zO z t0 0 = some a_74 ∧ zK z a_74 = 14 ∧ (0 ≤ zI z t0 9 ∧ zI z t0 9 < zN z a_74 ∧ F_X11_isDigit (zI z a_74 (zI z t0 9)) (fun x_75 => (if x_75 = 0 then P (.inr (.inl (x3, z))) else (if w32 ((zI z t0 9) - x2) = 2 then P (.inr (.inr z)) else (∀ z_126, z_126 = wI z t0 9 (w32 (zI z t0 9 + 1)) → P (.inl (w32 ((w32 (w32 (x3 * 10) + (zI z a_74 (zI z t0 9)))) - 48), z_126))))))))))
theorem U_X5_readVersion_55  {t0 : Nat} {x1 : Option Nat} {x2 : Int} {x3 : Int} {z : Z} {P : (Int × Z) ⊕ ((Int × Z) ⊕ (Z)) → Prop} {post : Option Sv ⊕ String → Hp → Prop} (r_x2 : R32 x2) (r_x3 : R32 x3) (hw : Wz z)  (hl : ∀ (x3 : Int) (z : Z), P (.inl (x3, z)) → Wz z → R32 x3 → J mX5_readVersion 2 0 0 post 55 [some (vr (some t0)), some (vr (x1)), some (ii (x2)), some (ii (x3))] [] (cz z)) (he0 : ∀ (x3 : Int) (z : Z), P (.inr (.inl (x3, z))) → Wz z → R32 x3 → J mX5_readVersion 2 0 0 post 132 [none, some (vr (x1)), none, some (ii (x3))] [] (cz z)) (he1 : ∀ (z : Z), P (.inr (.inr z)) → Wz z → J mX5_readVersion 2 0 0 post 91 [some (vr (some t0)), none, none, none] [] (cz z)) (H : L_X5_readVersion_55 t0 x1 x2 x3 z P) : J mX5_readVersion 2 0 0 post 55 [some (vr (some t0)), some (vr (x1)), some (ii (x2)), some (ii (x3))] [] (cz z) := by
  unfold L_X5_readVersion_55 at H
  refine j_aload_n (dk dt_X5_readVersion 30 rfl) rfl ?_
  obtain ⟨k_56, H⟩ := H
  refine jz_getI (kz := 9) (dk dt_X5_readVersion 31 rfl) fl_X5_112 rfl rfl rfl k_56 ?_
  refine j_aload_n (dk dt_X5_readVersion 32 rfl) rfl ?_
  refine jz_getI (kz := 8) (dk dt_X5_readVersion 33 rfl) fl_X5_42 rfl rfl rfl k_56 ?_
  refine jz_icmp_ge 132 (dk dt_X5_readVersion 34 rfl) (by decide) (hw.1 _ _) (hw.1 _ _) H (fun H => ?_) (fun H => ?_)
  · exact j_el (he0 _ _ H hw r_x3) (And.intro rfl (And.intro rfl trivial))
  · refine j_aload_n (dk dt_X5_readVersion 35 rfl) rfl ?_
    refine jz_getO (kz := 0) (dk dt_X5_readVersion 36 rfl) fl_X5_9 rfl rfl rfl k_56 ?_
    refine j_aload_n (dk dt_X5_readVersion 37 rfl) rfl ?_
    refine jz_getI (kz := 9) (dk dt_X5_readVersion 38 rfl) fl_X5_112 rfl rfl rfl k_56 ?_
    obtain ⟨a_74, e_74, k_74, H⟩ := H
    obtain ⟨p_74, q_74, H⟩ := H
    refine jz_bald (dk dt_X5_readVersion 39 rfl) e_74 k_74 p_74 q_74 hw ?_
    refine j_callSN1 (dk dt_X5_readVersion 40 rfl) snl_X5_102 (T_X11_isDigit (hw.1 _ _) H) rfl (by decide) (Nat.zero_le _) (Nat.zero_le _) (Nat.le_of_ble_eq_true rfl) (fun v_75 h_75 P_75 => ?_)
    obtain ⟨x_75, rfl, r_75, rfl, H⟩ := P_75
    dsimp only [rs]
    refine jz_if_eq 132 (dk dt_X5_readVersion 41 rfl) (by decide) r_75 H (fun H => ?_) (fun H => ?_)
    · exact j_el (he0 _ _ H hw r_x3) (And.intro rfl (And.intro rfl trivial))
    · refine j_aload_n (dk dt_X5_readVersion 42 rfl) rfl ?_
      refine jz_getI (kz := 9) (dk dt_X5_readVersion 43 rfl) fl_X5_112 rfl rfl rfl k_56 ?_
      refine j_iload_n (dk dt_X5_readVersion 44 rfl) rfl ?_
      refine jz_isub (dk dt_X5_readVersion 45 rfl) ?_
      refine j_iconst (v := Int32.ofInt 2) (dk dt_X5_readVersion 46 rfl) (by decide) ?_
      refine jz_icmp_ne 101 (dk dt_X5_readVersion 47 rfl) (by decide) (r32_w _) (by decide) H (fun H => ?_) (fun H => ?_)
      · exact j_el (he1 _ H hw) (And.intro rfl trivial)
      · refine j_iload_n (dk dt_X5_readVersion 54 rfl) rfl ?_
        refine j_bipush (v := Int32.ofInt 10) (dk dt_X5_readVersion 55 rfl) (by decide) ?_
        refine jz_imul (dk dt_X5_readVersion 56 rfl) ?_
        refine j_aload_n (dk dt_X5_readVersion 57 rfl) rfl ?_
        refine jz_getO (kz := 0) (dk dt_X5_readVersion 58 rfl) fl_X5_9 rfl rfl rfl k_56 ?_
        refine j_aload_n (dk dt_X5_readVersion 59 rfl) rfl ?_
        refine jz_getI (kz := 9) (dk dt_X5_readVersion 60 rfl) fl_X5_112 rfl rfl rfl k_56 ?_
        refine jz_bald (dk dt_X5_readVersion 61 rfl) e_74 k_74 p_74 q_74 hw ?_
        refine jz_iadd (dk dt_X5_readVersion 62 rfl) ?_
        refine j_bipush (v := Int32.ofInt 48) (dk dt_X5_readVersion 63 rfl) (by decide) ?_
        refine jz_isub (dk dt_X5_readVersion 64 rfl) ?_
        refine j_istore_n (dk dt_X5_readVersion 65 rfl) (by decide) ?_
        refine j_aload_n (dk dt_X5_readVersion 66 rfl) rfl ?_
        refine j_dup (dk dt_X5_readVersion 67 rfl) rfl ?_
        refine jz_getI (kz := 9) (dk dt_X5_readVersion 68 rfl) fl_X5_112 rfl rfl rfl k_56 ?_
        refine j_iconst (v := Int32.ofInt 1) (dk dt_X5_readVersion 69 rfl) (by decide) ?_
        refine jz_iadd (dk dt_X5_readVersion 70 rfl) ?_
        refine jz_putI (kz := 9) (dk dt_X5_readVersion 71 rfl) fl_X5_112 rfl rfl rfl rfl rfl k_56 hw (r32_w _) (fun w_126 => ?_)
        replace H := H _ rfl
        refine j_goto 55 (dk dt_X5_readVersion 72 rfl) (by decide) ?_
        exact j_el (hl _ _ H w_126 (r32_w _)) (And.intro rfl (And.intro rfl (And.intro rfl (And.intro rfl trivial))))
def F_X5_readVersion_132  (x1 : Option Nat) (x3 : Int) (z : Z) (P : Z → Prop) : Prop :=
  (∃ a_134, x1 = some a_134 ∧ zK z a_134 = 5 ∧ (∀ z_134, z_134 = wI z a_134 8 x3 → P z_134))
theorem T_X5_readVersion_132  {x1 : Option Nat} {x3 : Int} {z : Z} {P : Z → Prop} (r_x3 : R32 x3) (hw : Wz z)   (H : F_X5_readVersion_132 x1 x3 z P) : J mX5_readVersion 2 0 0 (nx (QZV P)) 132 [none, some (vr (x1)), none, some (ii (x3))] [] (cz z) := by
  unfold F_X5_readVersion_132 at H
  refine j_aload_n (dk dt_X5_readVersion 73 rfl) rfl ?_
  refine j_iload_n (dk dt_X5_readVersion 74 rfl) rfl ?_
  obtain ⟨a_134, e_134, k_134, H⟩ := H
  refine jz_putI (kz := 8) (dk dt_X5_readVersion 75 rfl) fl_X5_229 rfl rfl rfl rfl e_134 k_134 hw r_x3 (fun w_134 => ?_)
  replace H := H _ rfl
  exact j_return (dk dt_X5_readVersion 76 rfl) rfl ⟨_, rfl, rfl, w_134, H⟩
def F_X5_readVersion_55  (t0 : Nat) (x1 : Option Nat) (x2 : Int) (x3 : Int) (z : Z) (P : Z → Prop) : Prop :=
  lp (S := Int × Z) (E := (Int × Z) ⊕ (Z)) (fun q P_ => L_X5_readVersion_55 t0 x1 x2 q.1 q.2 P_) (x3, z) (fun e => match e with | (.inl (x3, z)) => F_X5_readVersion_132 x1 x3 z P | (.inr z) => (zK z t0 = 6 ∧ F_X5_fail t0 1 (zI z t0 9) z (fun z_97 => P z_97)))
theorem T_X5_readVersion_55  {t0 : Nat} {x1 : Option Nat} {x2 : Int} {x3 : Int} {z : Z} {P : Z → Prop} (r_x2 : R32 x2) (r_x3 : R32 x3) (hw : Wz z)   (H : F_X5_readVersion_55 t0 x1 x2 x3 z P) : J mX5_readVersion 2 0 0 (nx (QZV P)) 55 [some (vr (some t0)), some (vr (x1)), some (ii (x2)), some (ii (x3))] [] (cz z) := by
  unfold F_X5_readVersion_55 at H
  refine lp_J (G := fun q => Wz (q.2) → R32 (q.1) → J mX5_readVersion 2 0 0 (nx (QZV P)) 55 [some (vr (some t0)), some (vr (x1)), some (ii (x2)), some (ii ((q.1)))] [] (cz (q.2))) (fun q P_ hl_ he_ Hb => ?_) (x3, z) H hw r_x3
  obtain ⟨x3, z⟩ := q
  intro hw r_x3
  refine U_X5_readVersion_55 (P := P_) r_x2 r_x3 hw  (fun x3 z Hp hw r_x3 => hl_ (x3, z) Hp hw r_x3) ?_ ?_ Hb
  · intro x3 z Hp hw r_x3
    have H := he_ _ Hp
    exact j_el (T_X5_readVersion_132 r_x3 hw   H) (And.intro rfl (And.intro rfl trivial))
  · intro z Hp hw
    have H := he_ _ Hp
    refine j_aload_n (dk dt_X5_readVersion 48 rfl) rfl ?_
    refine j_iconst (v := Int32.ofInt 1) (dk dt_X5_readVersion 49 rfl) (by decide) ?_
    refine j_aload_n (dk dt_X5_readVersion 50 rfl) rfl ?_
    obtain ⟨k_94, H⟩ := H
    refine jz_getI (kz := 9) (dk dt_X5_readVersion 51 rfl) fl_X5_112 rfl rfl rfl k_94 ?_
    refine jz_callV2 (dk dt_X5_readVersion 52 rfl) vl_X5_62 rfl (T_X5_fail (by decide) (hw.1 _ _) hw H) k_94 rfl (by decide) (Nat.zero_le _) (Nat.zero_le _) (Nat.le_of_ble_eq_true rfl) (fun v_97 h_97 P_97 => ?_)
    obtain ⟨z_97, rfl, rfl, w_97, H⟩ := P_97
    dsimp only [rs]
    exact j_return (dk dt_X5_readVersion 53 rfl) rfl ⟨_, rfl, rfl, w_97, H⟩
def F_X5_readVersion  (t0 : Nat) (x1 : Option Nat) (z : Z) (P : Z → Prop) : Prop :=
  (zK z t0 = 6 ∧ F_X5_byteAt t0 (zI z t0 9) z (fun x_5 => (if x_5 = 64 then (∀ z_21, z_21 = wI z t0 9 (w32 (zI z t0 9 + 1)) → F_X5_byteAt t0 (zI z_21 t0 9) z_21 (fun x_29 => F_X11_isDigit x_29 (fun x_32 => (if x_32 = 0 then F_X5_fail t0 1 (zI z_21 t0 9) z_21 (fun z_44 => P z_44) else F_X5_readVersion_55 t0 x1 (zI z_21 t0 9) 0 z_21 P)))) else P z)))
theorem T_X5_readVersion  {t0 : Nat} {x1 : Option Nat} {z : Z} {P : Z → Prop}  (hw : Wz z)  (H : F_X5_readVersion t0 x1 z P) : Con mX5_readVersion 2 0 0 [vr (some t0), vr (x1)] (cz z) (QZV P) := by
  refine con_of rfl (Nat.le_of_ble_eq_true rfl) (by decide) ?_
  show J mX5_readVersion 2 0 0 _ 0 [some (vr (some t0)), some (vr (x1)), none, none] [] (cz z)
  unfold F_X5_readVersion at H
  refine j_aload_n (dk dt_X5_readVersion 0 rfl) rfl ?_
  refine j_aload_n (dk dt_X5_readVersion 1 rfl) rfl ?_
  obtain ⟨k_2, H⟩ := H
  refine jz_getI (kz := 9) (dk dt_X5_readVersion 2 rfl) fl_X5_112 rfl rfl rfl k_2 ?_
  refine jz_callV1 (dk dt_X5_readVersion 3 rfl) vl_X5_146 rfl (T_X5_byteAt (hw.1 _ _) hw H) k_2 rfl (by decide) (Nat.zero_le _) (Nat.zero_le _) (Nat.le_of_ble_eq_true rfl) (fun v_5 h_5 P_5 => ?_)
  obtain ⟨x_5, rfl, r_5, rfl, H⟩ := P_5
  dsimp only [rs]
  refine j_bipush (v := Int32.ofInt 64) (dk dt_X5_readVersion 4 rfl) (by decide) ?_
  refine jz_icmp_eq 14 (dk dt_X5_readVersion 5 rfl) (by decide) r_5 (by decide) H (fun H => ?_) (fun H => ?_)
  · refine j_aload_n (dk dt_X5_readVersion 7 rfl) rfl ?_
    refine j_dup (dk dt_X5_readVersion 8 rfl) rfl ?_
    refine jz_getI (kz := 9) (dk dt_X5_readVersion 9 rfl) fl_X5_112 rfl rfl rfl k_2 ?_
    refine j_iconst (v := Int32.ofInt 1) (dk dt_X5_readVersion 10 rfl) (by decide) ?_
    refine jz_iadd (dk dt_X5_readVersion 11 rfl) ?_
    refine jz_putI (kz := 9) (dk dt_X5_readVersion 12 rfl) fl_X5_112 rfl rfl rfl rfl rfl k_2 hw (r32_w _) (fun w_21 => ?_)
    replace H := H _ rfl
    refine j_aload_n (dk dt_X5_readVersion 13 rfl) rfl ?_
    refine j_aload_n (dk dt_X5_readVersion 14 rfl) rfl ?_
    refine jz_getI (kz := 9) (dk dt_X5_readVersion 15 rfl) fl_X5_112 rfl rfl rfl k_2 ?_
    refine jz_callV1 (dk dt_X5_readVersion 16 rfl) vl_X5_146 rfl (T_X5_byteAt (w_21.1 _ _) w_21 H) k_2 rfl (by decide) (Nat.zero_le _) (Nat.zero_le _) (Nat.le_of_ble_eq_true rfl) (fun v_29 h_29 P_29 => ?_)
    obtain ⟨x_29, rfl, r_29, rfl, H⟩ := P_29
    dsimp only [rs]
    refine j_callSN1 (dk dt_X5_readVersion 17 rfl) snl_X5_102 (T_X11_isDigit r_29 H) rfl (by decide) (Nat.zero_le _) (Nat.zero_le _) (Nat.le_of_ble_eq_true rfl) (fun v_32 h_32 P_32 => ?_)
    obtain ⟨x_32, rfl, r_32, rfl, H⟩ := P_32
    dsimp only [rs]
    refine jz_if_ne 48 (dk dt_X5_readVersion 18 rfl) (by decide) r_32 H (fun H => ?_) (fun H => ?_)
    · refine j_aload_n (dk dt_X5_readVersion 19 rfl) rfl ?_
      refine j_iconst (v := Int32.ofInt 1) (dk dt_X5_readVersion 20 rfl) (by decide) ?_
      refine j_aload_n (dk dt_X5_readVersion 21 rfl) rfl ?_
      refine jz_getI (kz := 9) (dk dt_X5_readVersion 22 rfl) fl_X5_112 rfl rfl rfl k_2 ?_
      refine jz_callV2 (dk dt_X5_readVersion 23 rfl) vl_X5_62 rfl (T_X5_fail (by decide) (w_21.1 _ _) w_21 H) k_2 rfl (by decide) (Nat.zero_le _) (Nat.zero_le _) (Nat.le_of_ble_eq_true rfl) (fun v_44 h_44 P_44 => ?_)
      obtain ⟨z_44, rfl, rfl, w_44, H⟩ := P_44
      dsimp only [rs]
      exact j_return (dk dt_X5_readVersion 24 rfl) rfl ⟨_, rfl, rfl, w_44, H⟩
    · refine j_aload_n (dk dt_X5_readVersion 25 rfl) rfl ?_
      refine jz_getI (kz := 9) (dk dt_X5_readVersion 26 rfl) fl_X5_112 rfl rfl rfl k_2 ?_
      refine j_istore_n (dk dt_X5_readVersion 27 rfl) (by decide) ?_
      refine j_iconst (v := Int32.ofInt 0) (dk dt_X5_readVersion 28 rfl) (by decide) ?_
      refine j_istore_n (dk dt_X5_readVersion 29 rfl) (by decide) ?_
      exact j_el (T_X5_readVersion_55 (w_21.1 _ _) (by decide) w_21   H) (And.intro rfl (And.intro rfl (And.intro rfl (And.intro rfl trivial))))
  · exact j_return (dk dt_X5_readVersion 6 rfl) rfl ⟨_, rfl, rfl, hw, H⟩
def F_X5_failLate_25  (z : Z) (P : Z → Prop) : Prop :=
  P z
theorem T_X5_failLate_25  {z : Z} {P : Z → Prop}  (hw : Wz z)   (H : F_X5_failLate_25 z P) : J mX5_failLate 1 0 0 (nx (QZV P)) 25 [none, none, none] [] (cz z) := by
  unfold F_X5_failLate_25 at H
  exact j_return (dk dt_X5_failLate 13 rfl) rfl ⟨_, rfl, rfl, hw, H⟩
def F_X5_failLate_15  (t0 : Nat) (x1 : Int) (x2 : Int) (z : Z) (P : Z → Prop) : Prop :=
  (zK z t0 = 6 ∧ (∀ z_17, z_17 = wI z t0 6 x1 → (∀ z_22, z_22 = wI z_17 t0 7 x2 → F_X5_failLate_25 z_22 P)))
theorem T_X5_failLate_15  {t0 : Nat} {x1 : Int} {x2 : Int} {z : Z} {P : Z → Prop} (r_x1 : R32 x1) (r_x2 : R32 x2) (hw : Wz z)   (H : F_X5_failLate_15 t0 x1 x2 z P) : J mX5_failLate 1 0 0 (nx (QZV P)) 15 [some (vr (some t0)), some (ii (x1)), some (ii (x2))] [] (cz z) := by
  unfold F_X5_failLate_15 at H
  refine j_aload_n (dk dt_X5_failLate 7 rfl) rfl ?_
  refine j_iload_n (dk dt_X5_failLate 8 rfl) rfl ?_
  obtain ⟨k_17, H⟩ := H
  refine jz_putI (kz := 6) (dk dt_X5_failLate 9 rfl) fl_X5_52 rfl rfl rfl rfl rfl k_17 hw r_x1 (fun w_17 => ?_)
  replace H := H _ rfl
  refine j_aload_n (dk dt_X5_failLate 10 rfl) rfl ?_
  refine j_iload_n (dk dt_X5_failLate 11 rfl) rfl ?_
  refine jz_putI (kz := 7) (dk dt_X5_failLate 12 rfl) fl_X5_55 rfl rfl rfl rfl rfl k_17 w_17 r_x2 (fun w_22 => ?_)
  replace H := H _ rfl
  exact j_el (T_X5_failLate_25  w_22   H) trivial
def F_X5_failLate  (t0 : Nat) (x1 : Int) (x2 : Int) (z : Z) (P : Z → Prop) : Prop :=
  (zK z t0 = 6 ∧ (if zI z t0 6 = 0 then F_X5_failLate_15 t0 x1 x2 z P else (if zI z t0 7 ≤ x2 then F_X5_failLate_25 z P else F_X5_failLate_15 t0 x1 x2 z P)))
theorem T_X5_failLate  {t0 : Nat} {x1 : Int} {x2 : Int} {z : Z} {P : Z → Prop} (r_x1 : R32 x1) (r_x2 : R32 x2) (hw : Wz z)  (H : F_X5_failLate t0 x1 x2 z P) : Con mX5_failLate 1 0 0 [vr (some t0), ii (x1), ii (x2)] (cz z) (QZV P) := by
  refine con_of rfl (Nat.le_of_ble_eq_true rfl) (by decide) ?_
  show J mX5_failLate 1 0 0 _ 0 [some (vr (some t0)), some (ii (x1)), some (ii (x2))] [] (cz z)
  unfold F_X5_failLate at H
  refine j_aload_n (dk dt_X5_failLate 0 rfl) rfl ?_
  obtain ⟨k_1, H⟩ := H
  refine jz_getI (kz := 6) (dk dt_X5_failLate 1 rfl) fl_X5_52 rfl rfl rfl k_1 ?_
  refine jz_if_eq 15 (dk dt_X5_failLate 2 rfl) (by decide) (hw.1 _ _) H (fun H => ?_) (fun H => ?_)
  · exact j_el (T_X5_failLate_15 r_x1 r_x2 hw   H) (And.intro rfl (And.intro rfl (And.intro rfl trivial)))
  · refine j_iload_n (dk dt_X5_failLate 3 rfl) rfl ?_
    refine j_aload_n (dk dt_X5_failLate 4 rfl) rfl ?_
    refine jz_getI (kz := 7) (dk dt_X5_failLate 5 rfl) fl_X5_55 rfl rfl rfl k_1 ?_
    refine jz_icmp_ge 25 (dk dt_X5_failLate 6 rfl) (by decide) r_x2 (hw.1 _ _) H (fun H => ?_) (fun H => ?_)
    · exact j_el (T_X5_failLate_25  hw   H) trivial
    · exact j_el (T_X5_failLate_15 r_x1 r_x2 hw   H) (And.intro rfl (And.intro rfl (And.intro rfl trivial)))
def F_X5_settle_169  (z : Z) (P : Z → Prop) : Prop :=
  P z
theorem T_X5_settle_169  {z : Z} {P : Z → Prop}  (hw : Wz z)   (H : F_X5_settle_169 z P) : J mX5_settle 2 0 0 (nx (QZV P)) 169 [none, none, none, none] [] (cz z) := by
  unfold F_X5_settle_169 at H
  exact j_return (dk dt_X5_settle 91 rfl) rfl ⟨_, rfl, rfl, hw, H⟩
def F_X5_settle_130  (t0 : Nat) (x1 : Option Nat) (z : Z) (P : Z → Prop) : Prop :=
  (zK z t0 = 6 ∧ (if zI z t0 4 = 0 then (∃ a_145, zO z t0 1 = some a_145 ∧ zK z a_145 = 20 ∧ (if zN z a_145 ≤ zI z t0 10 then F_X5_settle_169 z P else (0 ≤ zI z t0 10 ∧ zI z t0 10 < zN z a_145 ∧ ((∀ v, x1 = some v → zK z v = 5) ∧ (∀ z_158, z_158 = wO z a_145 (zI z t0 10) x1 → (∀ z_166, z_166 = wI z_158 t0 10 (w32 (zI z_158 t0 10 + 1)) → F_X5_settle_169 z_166 P)))))) else F_X5_settle_169 z P))
theorem T_X5_settle_130  {t0 : Nat} {x1 : Option Nat} {z : Z} {P : Z → Prop}  (hw : Wz z)   (H : F_X5_settle_130 t0 x1 z P) : J mX5_settle 2 0 0 (nx (QZV P)) 130 [some (vr (some t0)), some (vr (x1)), none, none] [] (cz z) := by
  unfold F_X5_settle_130 at H
  refine j_aload_n (dk dt_X5_settle 70 rfl) rfl ?_
  obtain ⟨k_131, H⟩ := H
  refine jz_getI (kz := 4) (dk dt_X5_settle 71 rfl) fl_X5_36 rfl rfl rfl k_131 ?_
  refine jz_if_ne 169 (dk dt_X5_settle 72 rfl) (by decide) (hw.1 _ _) H (fun H => ?_) (fun H => ?_)
  · refine j_aload_n (dk dt_X5_settle 73 rfl) rfl ?_
    refine jz_getI (kz := 10) (dk dt_X5_settle 74 rfl) fl_X5_109 rfl rfl rfl k_131 ?_
    refine j_aload_n (dk dt_X5_settle 75 rfl) rfl ?_
    refine jz_getO (kz := 1) (dk dt_X5_settle 76 rfl) fl_X5_17 rfl rfl rfl k_131 ?_
    obtain ⟨a_145, e_145, k_145, H⟩ := H
    refine jz_alen (t := 6) (dk dt_X5_settle 77 rfl) e_145 k_145 (by decide) hw ?_
    refine jz_icmp_ge 169 (dk dt_X5_settle 78 rfl) (by decide) (hw.1 _ _) (r32_len hw _) H (fun H => ?_) (fun H => ?_)
    · exact j_el (T_X5_settle_169  hw   H) trivial
    · refine j_aload_n (dk dt_X5_settle 79 rfl) rfl ?_
      refine jz_getO (kz := 1) (dk dt_X5_settle 80 rfl) fl_X5_17 rfl rfl rfl k_131 ?_
      refine j_aload_n (dk dt_X5_settle 81 rfl) rfl ?_
      refine jz_getI (kz := 10) (dk dt_X5_settle 82 rfl) fl_X5_109 rfl rfl rfl k_131 ?_
      refine j_aload_n (dk dt_X5_settle 83 rfl) rfl ?_
      obtain ⟨p_158, q_158, H⟩ := H
      obtain ⟨v_158, H⟩ := H
      refine jz_aast (t := 6) (dk dt_X5_settle 84 rfl) e_145 k_145 (by decide) (by decide) p_158 q_158 hw v_158 (fun w_158 => ?_)
      replace H := H _ rfl
      refine j_aload_n (dk dt_X5_settle 85 rfl) rfl ?_
      refine j_dup (dk dt_X5_settle 86 rfl) rfl ?_
      refine jz_getI (kz := 10) (dk dt_X5_settle 87 rfl) fl_X5_109 rfl rfl rfl k_131 ?_
      refine j_iconst (v := Int32.ofInt 1) (dk dt_X5_settle 88 rfl) (by decide) ?_
      refine jz_iadd (dk dt_X5_settle 89 rfl) ?_
      refine jz_putI (kz := 10) (dk dt_X5_settle 90 rfl) fl_X5_109 rfl rfl rfl rfl rfl k_131 w_158 (r32_w _) (fun w_166 => ?_)
      replace H := H _ rfl
      exact j_el (T_X5_settle_169  w_166   H) trivial
  · exact j_el (T_X5_settle_169  hw   H) trivial
def F_X5_settle_61  (t0 : Nat) (x1 : Option Nat) (x2 : Int) (z : Z) (P : Z → Prop) : Prop :=
  (zK z t0 = 6 ∧ F_X5_failLate t0 3 x2 z (fun z_64 => F_X5_settle_130 t0 x1 z_64 P))
theorem T_X5_settle_61  {t0 : Nat} {x1 : Option Nat} {x2 : Int} {z : Z} {P : Z → Prop} (r_x2 : R32 x2) (hw : Wz z)   (H : F_X5_settle_61 t0 x1 x2 z P) : J mX5_settle 2 0 0 (nx (QZV P)) 61 [some (vr (some t0)), some (vr (x1)), some (ii (x2)), none] [] (cz z) := by
  unfold F_X5_settle_61 at H
  refine j_aload_n (dk dt_X5_settle 29 rfl) rfl ?_
  refine j_iconst (v := Int32.ofInt 3) (dk dt_X5_settle 30 rfl) (by decide) ?_
  refine j_iload_n (dk dt_X5_settle 31 rfl) rfl ?_
  obtain ⟨k_64, H⟩ := H
  refine jz_callV2 (dk dt_X5_settle 32 rfl) vl_X5_243 rfl (T_X5_failLate (by decide) r_x2 hw H) k_64 rfl (by decide) (Nat.zero_le _) (Nat.zero_le _) (Nat.le_of_ble_eq_true rfl) (fun v_64 h_64 P_64 => ?_)
  obtain ⟨z_64, rfl, rfl, w_64, H⟩ := P_64
  dsimp only [rs]
  refine j_goto 130 (dk dt_X5_settle 33 rfl) (by decide) ?_
  exact j_el (T_X5_settle_130  w_64   H) (And.intro rfl (And.intro rfl trivial))
def F_X5_settle_26  (t0 : Nat) (x1 : Option Nat) (x2 : Int) (s0 : Option Nat) (z : Z) (P : Z → Prop) : Prop :=
  (if s0 = none then F_X5_settle_61 t0 x1 x2 z P else (∃ a_33, x1 = some a_33 ∧ zK z a_33 = 5 ∧ (∃ a_40, s0 = some a_40 ∧ zK z a_40 = 7 ∧ F_X6_has a_40 (zI z a_33 3) (zI z a_33 4) z (fun x_40 => (if x_40 = 0 then F_X5_settle_61 t0 x1 x2 z P else F_X6_has a_40 (zI z a_33 5) (zI z a_33 6) z (fun x_55 => (if x_55 = 0 then F_X5_settle_61 t0 x1 x2 z P else (∃ a_81, zO z a_40 0 = some a_81 ∧ zK z a_81 = 15 ∧ (0 ≤ w32 ((zI z a_33 3) - 1) ∧ w32 ((zI z a_33 3) - 1) < zN z a_81 ∧ (∀ z_82, z_82 = wI z a_33 3 (zI z a_81 (w32 ((zI z a_33 3) - 1))) → (∃ a_87, s0 = some a_87 ∧ zK z_82 a_87 = 7 ∧ (∃ a_91, x1 = some a_91 ∧ zK z_82 a_91 = 5 ∧ (∃ a_96, zO z_82 a_87 0 = some a_96 ∧ zK z_82 a_96 = 15 ∧ (0 ≤ w32 ((zI z_82 a_91 5) - 1) ∧ w32 ((zI z_82 a_91 5) - 1) < zN z_82 a_96 ∧ (∀ z_97, z_97 = wI z_82 a_91 5 (zI z_82 a_96 (w32 ((zI z_82 a_91 5) - 1))) → (∃ a_102, s0 = some a_102 ∧ zK z_97 a_102 = 7 ∧ (∃ a_106, x1 = some a_106 ∧ zK z_97 a_106 = 5 ∧ (∃ a_111, zO z_97 a_102 1 = some a_111 ∧ zK z_97 a_111 = 15 ∧ (0 ≤ w32 ((zI z_97 a_106 4) - 1) ∧ w32 ((zI z_97 a_106 4) - 1) < zN z_97 a_111 ∧ (∀ z_112, z_112 = wI z_97 a_106 4 (zI z_97 a_111 (w32 ((zI z_97 a_106 4) - 1))) → (∃ a_117, s0 = some a_117 ∧ zK z_112 a_117 = 7 ∧ (∃ a_121, x1 = some a_121 ∧ zK z_112 a_121 = 5 ∧ (∃ a_126, zO z_112 a_117 1 = some a_126 ∧ zK z_112 a_126 = 15 ∧ (0 ≤ w32 ((zI z_112 a_121 6) - 1) ∧ w32 ((zI z_112 a_121 6) - 1) < zN z_112 a_126 ∧ (∀ z_127, z_127 = wI z_112 a_121 6 (zI z_112 a_126 (w32 ((zI z_112 a_121 6) - 1))) → F_X5_settle_130 t0 x1 z_127 P)))))))))))))))))))))))))
theorem T_X5_settle_26  {t0 : Nat} {x1 : Option Nat} {x2 : Int} {s0 : Option Nat} {z : Z} {P : Z → Prop} (r_x2 : R32 x2) (hw : Wz z)   (H : F_X5_settle_26 t0 x1 x2 s0 z P) : J mX5_settle 2 0 0 (nx (QZV P)) 26 [some (vr (some t0)), some (vr (x1)), some (ii (x2)), none] [vr (s0)] (cz z) := by
  unfold F_X5_settle_26 at H
  refine j_astore_n (dk dt_X5_settle 12 rfl) (by decide) ?_
  refine j_aload_n (dk dt_X5_settle 13 rfl) rfl ?_
  refine jz_ifnull 61 (dk dt_X5_settle 14 rfl) (by decide) H (fun H => ?_) (fun H => ?_)
  · exact j_el (T_X5_settle_61 r_x2 hw   H) (And.intro rfl (And.intro rfl (And.intro rfl trivial)))
  · refine j_aload_n (dk dt_X5_settle 15 rfl) rfl ?_
    refine j_aload_n (dk dt_X5_settle 16 rfl) rfl ?_
    obtain ⟨a_33, e_33, k_33, H⟩ := H
    refine jz_getI (kz := 3) (dk dt_X5_settle 17 rfl) fl_X5_223 rfl rfl e_33 k_33 ?_
    refine j_aload_n (dk dt_X5_settle 18 rfl) rfl ?_
    refine jz_getI (kz := 4) (dk dt_X5_settle 19 rfl) fl_X5_226 rfl rfl e_33 k_33 ?_
    obtain ⟨a_40, e_40, k_40, H⟩ := H
    refine jz_callV2 (dk dt_X5_settle 20 rfl) vl_X5_237 e_40 (T_X6_has (hw.1 _ _) (hw.1 _ _) hw H) k_40 rfl (by decide) (Nat.zero_le _) (Nat.zero_le _) (Nat.le_of_ble_eq_true rfl) (fun v_40 h_40 P_40 => ?_)
    obtain ⟨x_40, rfl, r_40, rfl, H⟩ := P_40
    dsimp only [rs]
    refine jz_if_eq 61 (dk dt_X5_settle 21 rfl) (by decide) r_40 H (fun H => ?_) (fun H => ?_)
    · exact j_el (T_X5_settle_61 r_x2 hw   H) (And.intro rfl (And.intro rfl (And.intro rfl trivial)))
    · refine j_aload_n (dk dt_X5_settle 22 rfl) rfl ?_
      refine j_aload_n (dk dt_X5_settle 23 rfl) rfl ?_
      refine jz_getI (kz := 5) (dk dt_X5_settle 24 rfl) fl_X5_214 rfl rfl e_33 k_33 ?_
      refine j_aload_n (dk dt_X5_settle 25 rfl) rfl ?_
      refine jz_getI (kz := 6) (dk dt_X5_settle 26 rfl) fl_X5_217 rfl rfl e_33 k_33 ?_
      refine jz_callV2 (dk dt_X5_settle 27 rfl) vl_X5_237 e_40 (T_X6_has (hw.1 _ _) (hw.1 _ _) hw H) k_40 rfl (by decide) (Nat.zero_le _) (Nat.zero_le _) (Nat.le_of_ble_eq_true rfl) (fun v_55 h_55 P_55 => ?_)
      obtain ⟨x_55, rfl, r_55, rfl, H⟩ := P_55
      dsimp only [rs]
      refine jz_if_ne 70 (dk dt_X5_settle 28 rfl) (by decide) r_55 H (fun H => ?_) (fun H => ?_)
      · exact j_el (T_X5_settle_61 r_x2 hw   H) (And.intro rfl (And.intro rfl (And.intro rfl trivial)))
      · refine j_aload_n (dk dt_X5_settle 34 rfl) rfl ?_
        refine j_aload_n (dk dt_X5_settle 35 rfl) rfl ?_
        refine jz_getO (kz := 0) (dk dt_X5_settle 36 rfl) fl_X5_246 rfl rfl e_40 k_40 ?_
        refine j_aload_n (dk dt_X5_settle 37 rfl) rfl ?_
        refine jz_getI (kz := 3) (dk dt_X5_settle 38 rfl) fl_X5_223 rfl rfl e_33 k_33 ?_
        refine j_iconst (v := Int32.ofInt 1) (dk dt_X5_settle 39 rfl) (by decide) ?_
        refine jz_isub (dk dt_X5_settle 40 rfl) ?_
        obtain ⟨a_81, e_81, k_81, H⟩ := H
        obtain ⟨p_81, q_81, H⟩ := H
        refine jz_iald (dk dt_X5_settle 41 rfl) e_81 k_81 p_81 q_81 hw ?_
        refine jz_putI (kz := 3) (dk dt_X5_settle 42 rfl) fl_X5_223 rfl rfl rfl rfl e_33 k_33 hw (hw.1 _ _) (fun w_82 => ?_)
        replace H := H _ rfl
        refine j_aload_n (dk dt_X5_settle 43 rfl) rfl ?_
        refine j_aload_n (dk dt_X5_settle 44 rfl) rfl ?_
        obtain ⟨a_87, e_87, k_87, H⟩ := H
        refine jz_getO (kz := 0) (dk dt_X5_settle 45 rfl) fl_X5_246 rfl rfl e_87 k_87 ?_
        refine j_aload_n (dk dt_X5_settle 46 rfl) rfl ?_
        obtain ⟨a_91, e_91, k_91, H⟩ := H
        refine jz_getI (kz := 5) (dk dt_X5_settle 47 rfl) fl_X5_214 rfl rfl e_91 k_91 ?_
        refine j_iconst (v := Int32.ofInt 1) (dk dt_X5_settle 48 rfl) (by decide) ?_
        refine jz_isub (dk dt_X5_settle 49 rfl) ?_
        obtain ⟨a_96, e_96, k_96, H⟩ := H
        obtain ⟨p_96, q_96, H⟩ := H
        refine jz_iald (dk dt_X5_settle 50 rfl) e_96 k_96 p_96 q_96 w_82 ?_
        refine jz_putI (kz := 5) (dk dt_X5_settle 51 rfl) fl_X5_214 rfl rfl rfl rfl e_91 k_91 w_82 (w_82.1 _ _) (fun w_97 => ?_)
        replace H := H _ rfl
        refine j_aload_n (dk dt_X5_settle 52 rfl) rfl ?_
        refine j_aload_n (dk dt_X5_settle 53 rfl) rfl ?_
        obtain ⟨a_102, e_102, k_102, H⟩ := H
        refine jz_getO (kz := 1) (dk dt_X5_settle 54 rfl) fl_X5_250 rfl rfl e_102 k_102 ?_
        refine j_aload_n (dk dt_X5_settle 55 rfl) rfl ?_
        obtain ⟨a_106, e_106, k_106, H⟩ := H
        refine jz_getI (kz := 4) (dk dt_X5_settle 56 rfl) fl_X5_226 rfl rfl e_106 k_106 ?_
        refine j_iconst (v := Int32.ofInt 1) (dk dt_X5_settle 57 rfl) (by decide) ?_
        refine jz_isub (dk dt_X5_settle 58 rfl) ?_
        obtain ⟨a_111, e_111, k_111, H⟩ := H
        obtain ⟨p_111, q_111, H⟩ := H
        refine jz_iald (dk dt_X5_settle 59 rfl) e_111 k_111 p_111 q_111 w_97 ?_
        refine jz_putI (kz := 4) (dk dt_X5_settle 60 rfl) fl_X5_226 rfl rfl rfl rfl e_106 k_106 w_97 (w_97.1 _ _) (fun w_112 => ?_)
        replace H := H _ rfl
        refine j_aload_n (dk dt_X5_settle 61 rfl) rfl ?_
        refine j_aload_n (dk dt_X5_settle 62 rfl) rfl ?_
        obtain ⟨a_117, e_117, k_117, H⟩ := H
        refine jz_getO (kz := 1) (dk dt_X5_settle 63 rfl) fl_X5_250 rfl rfl e_117 k_117 ?_
        refine j_aload_n (dk dt_X5_settle 64 rfl) rfl ?_
        obtain ⟨a_121, e_121, k_121, H⟩ := H
        refine jz_getI (kz := 6) (dk dt_X5_settle 65 rfl) fl_X5_217 rfl rfl e_121 k_121 ?_
        refine j_iconst (v := Int32.ofInt 1) (dk dt_X5_settle 66 rfl) (by decide) ?_
        refine jz_isub (dk dt_X5_settle 67 rfl) ?_
        obtain ⟨a_126, e_126, k_126, H⟩ := H
        obtain ⟨p_126, q_126, H⟩ := H
        refine jz_iald (dk dt_X5_settle 68 rfl) e_126 k_126 p_126 q_126 w_112 ?_
        refine jz_putI (kz := 6) (dk dt_X5_settle 69 rfl) fl_X5_217 rfl rfl rfl rfl e_121 k_121 w_112 (w_112.1 _ _) (fun w_127 => ?_)
        replace H := H _ rfl
        exact j_el (T_X5_settle_130  w_127   H) (And.intro rfl (And.intro rfl trivial))
def F_X5_settle  (t0 : Nat) (x1 : Option Nat) (x2 : Int) (z : Z) (P : Z → Prop) : Prop :=
  (∃ a_1, x1 = some a_1 ∧ zK z a_1 = 5 ∧ (if zI z a_1 8 = (-1) then (zK z t0 = 6 ∧ F_X5_settle_26 t0 x1 x2 (zO z t0 11) z P) else (zK z t0 = 6 ∧ (∃ a_23, zO z t0 12 = some a_23 ∧ zK z a_23 = 3 ∧ F_X2_at a_23 (zI z a_1 8) z (fun x_23 => F_X5_settle_26 t0 x1 x2 x_23 z P)))))
theorem T_X5_settle  {t0 : Nat} {x1 : Option Nat} {x2 : Int} {z : Z} {P : Z → Prop} (r_x2 : R32 x2) (hw : Wz z)  (H : F_X5_settle t0 x1 x2 z P) : Con mX5_settle 2 0 0 [vr (some t0), vr (x1), ii (x2)] (cz z) (QZV P) := by
  refine con_of rfl (Nat.le_of_ble_eq_true rfl) (by decide) ?_
  show J mX5_settle 2 0 0 _ 0 [some (vr (some t0)), some (vr (x1)), some (ii (x2)), none] [] (cz z)
  unfold F_X5_settle at H
  refine j_aload_n (dk dt_X5_settle 0 rfl) rfl ?_
  obtain ⟨a_1, e_1, k_1, H⟩ := H
  refine jz_getI (kz := 8) (dk dt_X5_settle 1 rfl) fl_X5_229 rfl rfl e_1 k_1 ?_
  refine j_iconst (v := Int32.ofInt (-1)) (dk dt_X5_settle 2 rfl) (by decide) ?_
  refine jz_icmp_ne 15 (dk dt_X5_settle 3 rfl) (by decide) (hw.1 _ _) (by decide) H (fun H => ?_) (fun H => ?_)
  · refine j_aload_n (dk dt_X5_settle 4 rfl) rfl ?_
    obtain ⟨k_9, H⟩ := H
    refine jz_getO (kz := 11) (dk dt_X5_settle 5 rfl) fl_X5_28 rfl rfl rfl k_9 ?_
    refine j_goto 26 (dk dt_X5_settle 6 rfl) (by decide) ?_
    exact j_el (T_X5_settle_26 r_x2 hw   H) (And.intro rfl (And.intro rfl (And.intro rfl trivial)))
  · refine j_aload_n (dk dt_X5_settle 7 rfl) rfl ?_
    obtain ⟨k_16, H⟩ := H
    refine jz_getO (kz := 12) (dk dt_X5_settle 8 rfl) fl_X5_32 rfl rfl rfl k_16 ?_
    refine j_aload_n (dk dt_X5_settle 9 rfl) rfl ?_
    refine jz_getI (kz := 8) (dk dt_X5_settle 10 rfl) fl_X5_229 rfl rfl e_1 k_1 ?_
    obtain ⟨a_23, e_23, k_23, H⟩ := H
    refine jz_callV1 (dk dt_X5_settle 11 rfl) vl_X5_232 e_23 (T_X2_at (hw.1 _ _) hw H) k_23 rfl (by decide) (Nat.zero_le _) (Nat.zero_le _) (Nat.le_of_ble_eq_true rfl) (fun v_23 h_23 P_23 => ?_)
    obtain ⟨x_23, rfl, rfl, H⟩ := P_23
    dsimp only [rs]
    exact j_el (T_X5_settle_26 r_x2 hw   H) (And.intro rfl (And.intro rfl (And.intro rfl trivial)))
def F_X5_takeFirstCorner  (t0 : Nat) (x1 : Option Nat) (z : Z) (P : Z → Prop) : Prop :=
  (zK z t0 = 6 ∧ (∃ a_5, x1 = some a_5 ∧ zK z a_5 = 5 ∧ (∀ z_5, z_5 = wI z a_5 3 (zI z t0 13) → (∃ a_13, x1 = some a_13 ∧ zK z_5 a_13 = 5 ∧ (∀ z_13, z_13 = wI z_5 a_13 4 (zI z_5 t0 14) → (∃ a_21, x1 = some a_21 ∧ zK z_13 a_21 = 5 ∧ (∀ z_21, z_21 = wI z_13 a_21 5 (zI z_13 t0 13) → (∃ a_29, x1 = some a_29 ∧ zK z_21 a_29 = 5 ∧ (∀ z_29, z_29 = wI z_21 a_29 6 (zI z_21 t0 14) → (∃ a_44, x1 = some a_44 ∧ zK z_29 a_44 = 5 ∧ (∀ z_44, z_44 = wI z_29 a_44 7 (bOr (zI z_29 t0 15) (bShl (zI z_29 t0 15) 2)) → (∀ z_52, z_52 = wI z_44 t0 9 (zI z_44 t0 16) → P z_52))))))))))))
theorem T_X5_takeFirstCorner  {t0 : Nat} {x1 : Option Nat} {z : Z} {P : Z → Prop}  (hw : Wz z)  (H : F_X5_takeFirstCorner t0 x1 z P) : Con mX5_takeFirstCorner 1 0 0 [vr (some t0), vr (x1)] (cz z) (QZV P) := by
  refine con_of rfl (Nat.le_of_ble_eq_true rfl) (by decide) ?_
  show J mX5_takeFirstCorner 1 0 0 _ 0 [some (vr (some t0)), some (vr (x1))] [] (cz z)
  unfold F_X5_takeFirstCorner at H
  refine j_aload_n (dk dt_X5_takeFirstCorner 0 rfl) rfl ?_
  refine j_aload_n (dk dt_X5_takeFirstCorner 1 rfl) rfl ?_
  obtain ⟨k_2, H⟩ := H
  refine jz_getI (kz := 13) (dk dt_X5_takeFirstCorner 2 rfl) fl_X5_197 rfl rfl rfl k_2 ?_
  obtain ⟨a_5, e_5, k_5, H⟩ := H
  refine jz_putI (kz := 3) (dk dt_X5_takeFirstCorner 3 rfl) fl_X5_223 rfl rfl rfl rfl e_5 k_5 hw (hw.1 _ _) (fun w_5 => ?_)
  replace H := H _ rfl
  refine j_aload_n (dk dt_X5_takeFirstCorner 4 rfl) rfl ?_
  refine j_aload_n (dk dt_X5_takeFirstCorner 5 rfl) rfl ?_
  refine jz_getI (kz := 14) (dk dt_X5_takeFirstCorner 6 rfl) fl_X5_194 rfl rfl rfl k_2 ?_
  obtain ⟨a_13, e_13, k_13, H⟩ := H
  refine jz_putI (kz := 4) (dk dt_X5_takeFirstCorner 7 rfl) fl_X5_226 rfl rfl rfl rfl e_13 k_13 w_5 (w_5.1 _ _) (fun w_13 => ?_)
  replace H := H _ rfl
  refine j_aload_n (dk dt_X5_takeFirstCorner 8 rfl) rfl ?_
  refine j_aload_n (dk dt_X5_takeFirstCorner 9 rfl) rfl ?_
  refine jz_getI (kz := 13) (dk dt_X5_takeFirstCorner 10 rfl) fl_X5_197 rfl rfl rfl k_2 ?_
  obtain ⟨a_21, e_21, k_21, H⟩ := H
  refine jz_putI (kz := 5) (dk dt_X5_takeFirstCorner 11 rfl) fl_X5_214 rfl rfl rfl rfl e_21 k_21 w_13 (w_13.1 _ _) (fun w_21 => ?_)
  replace H := H _ rfl
  refine j_aload_n (dk dt_X5_takeFirstCorner 12 rfl) rfl ?_
  refine j_aload_n (dk dt_X5_takeFirstCorner 13 rfl) rfl ?_
  refine jz_getI (kz := 14) (dk dt_X5_takeFirstCorner 14 rfl) fl_X5_194 rfl rfl rfl k_2 ?_
  obtain ⟨a_29, e_29, k_29, H⟩ := H
  refine jz_putI (kz := 6) (dk dt_X5_takeFirstCorner 15 rfl) fl_X5_217 rfl rfl rfl rfl e_29 k_29 w_21 (w_21.1 _ _) (fun w_29 => ?_)
  replace H := H _ rfl
  refine j_aload_n (dk dt_X5_takeFirstCorner 16 rfl) rfl ?_
  refine j_aload_n (dk dt_X5_takeFirstCorner 17 rfl) rfl ?_
  refine jz_getI (kz := 15) (dk dt_X5_takeFirstCorner 18 rfl) fl_X5_191 rfl rfl rfl k_2 ?_
  refine j_aload_n (dk dt_X5_takeFirstCorner 19 rfl) rfl ?_
  refine jz_getI (kz := 15) (dk dt_X5_takeFirstCorner 20 rfl) fl_X5_191 rfl rfl rfl k_2 ?_
  refine j_iconst (v := Int32.ofInt 2) (dk dt_X5_takeFirstCorner 21 rfl) (by decide) ?_
  refine jz_ishl (dk dt_X5_takeFirstCorner 22 rfl) ?_
  refine jz_ior (dk dt_X5_takeFirstCorner 23 rfl) ?_
  obtain ⟨a_44, e_44, k_44, H⟩ := H
  refine jz_putI (kz := 7) (dk dt_X5_takeFirstCorner 24 rfl) fl_X5_220 rfl rfl rfl rfl e_44 k_44 w_29 (r32_t _) (fun w_44 => ?_)
  replace H := H _ rfl
  refine j_aload_n (dk dt_X5_takeFirstCorner 25 rfl) rfl ?_
  refine j_aload_n (dk dt_X5_takeFirstCorner 26 rfl) rfl ?_
  refine jz_getI (kz := 16) (dk dt_X5_takeFirstCorner 27 rfl) fl_X5_200 rfl rfl rfl k_2 ?_
  refine jz_putI (kz := 9) (dk dt_X5_takeFirstCorner 28 rfl) fl_X5_112 rfl rfl rfl rfl rfl k_2 w_44 (w_44.1 _ _) (fun w_52 => ?_)
  replace H := H _ rfl
  exact j_return (dk dt_X5_takeFirstCorner 29 rfl) rfl ⟨_, rfl, rfl, w_52, H⟩
def F_X5_area  (t0 : Nat) (z : Z) (c : Nat) (s : Nat) (P : Z → Prop) : Prop :=
  (zK z t0 = 6 ∧ (1 ≤ c ∧ 9 ≤ s ∧ ∀ a_5, zK z a_5 = 0 → (∀ z_5, z_5 = nZ z a_5 5 0 → F_X4_init a_5 17 0 none z_5 (fun z_13 => (zK z_13 t0 = 6 ∧ F_X5_takeFirstCorner t0 (some a_5) z_13 (fun z_19 => (zK z_19 t0 = 6 ∧ (∀ z_29, z_29 = wI z_19 t0 9 (w32 (zI z_19 t0 9 + 1)) → F_X5_isCorner t0 (zI z_29 t0 9) z_29 (fun x_37 z_37 => (if x_37 = 0 then (zK z_37 t0 = 6 ∧ F_X5_fail t0 1 (zI z_37 t0 9) z_37 (fun z_49 => P z_49)) else (zK z_37 t0 = 6 ∧ (zK z_37 a_5 = 5 ∧ (∀ z_58, z_58 = wI z_37 a_5 5 (zI z_37 t0 13) → (∀ z_66, z_66 = wI z_58 a_5 6 (zI z_58 t0 14) → (∀ z_83, z_83 = wI z_66 a_5 7 (bOr (bAnd (zI z_66 a_5 7) 3) (bShl (zI z_66 t0 15) 2)) → (∀ z_91, z_91 = wI z_83 t0 9 (zI z_83 t0 16) → F_X5_readVersion t0 (some a_5) z_91 (fun z_96 => (zK z_96 t0 = 6 ∧ F_X5_settle t0 (some a_5) (zI z t0 9) z_96 (fun z_102 => P z_102)))))))))))))))))))
theorem T_X5_area  {t0 : Nat} {z : Z} {c : Nat} {s : Nat} {P : Z → Prop}  (hw : Wz z)  (H : F_X5_area t0 z c s P) : Con mX5_area 5 c s [vr (some t0)] (cz z) (QZV P) := by
  refine con_of rfl (Nat.le_of_ble_eq_true rfl) (by decide) ?_
  show J mX5_area 5 c s _ 0 [some (vr (some t0)), none, none] [] (cz z)
  unfold F_X5_area at H
  refine j_aload_n (dk dt_X5_area 0 rfl) rfl ?_
  obtain ⟨k_1, H⟩ := H
  refine jz_getI (kz := 9) (dk dt_X5_area 1 rfl) fl_X5_112 rfl rfl rfl k_1 ?_
  refine j_istore_n (dk dt_X5_area 2 rfl) (by decide) ?_
  obtain ⟨hc_5, hs_5, H⟩ := H
  refine jz_new (dk dt_X5_area 3 rfl) cl_4 nl_X5_15 iw_4 zw_4 rfl hc_5 hs_5 hw (fun a_5 e_5 w_5 => ?_)
  replace H := H a_5 e_5
  replace H := H _ rfl
  refine j_dup (dk dt_X5_area 4 rfl) rfl ?_
  refine j_bipush (v := Int32.ofInt 17) (dk dt_X5_area 5 rfl) (by decide) ?_
  refine j_iconst (v := Int32.ofInt 0) (dk dt_X5_area 6 rfl) (by decide) ?_
  refine j_null (dk dt_X5_area 7 rfl) ?_
  refine jz_callI3 (dk dt_X5_area 8 rfl) il_X5_121 rfl (T_X4_init (by decide) (by decide) w_5 H) rfl (by decide) (Nat.zero_le _) (Nat.zero_le _) (Nat.le_of_ble_eq_true rfl) (fun v_13 h_13 P_13 => ?_)
  obtain ⟨z_13, rfl, rfl, w_13, H⟩ := P_13
  dsimp only [rs]
  refine j_astore_n (dk dt_X5_area 9 rfl) (by decide) ?_
  refine j_aload_n (dk dt_X5_area 10 rfl) rfl ?_
  refine j_aload_n (dk dt_X5_area 11 rfl) rfl ?_
  obtain ⟨k_19, H⟩ := H
  refine jz_callV1 (dk dt_X5_area 12 rfl) vl_X5_203 rfl (T_X5_takeFirstCorner w_13 H) k_19 rfl (by decide) (Nat.zero_le _) (Nat.zero_le _) (Nat.le_of_ble_eq_true rfl) (fun v_19 h_19 P_19 => ?_)
  obtain ⟨z_19, rfl, rfl, w_19, H⟩ := P_19
  dsimp only [rs]
  refine j_aload_n (dk dt_X5_area 13 rfl) rfl ?_
  refine j_dup (dk dt_X5_area 14 rfl) rfl ?_
  obtain ⟨k_24, H⟩ := H
  refine jz_getI (kz := 9) (dk dt_X5_area 15 rfl) fl_X5_112 rfl rfl rfl k_24 ?_
  refine j_iconst (v := Int32.ofInt 1) (dk dt_X5_area 16 rfl) (by decide) ?_
  refine jz_iadd (dk dt_X5_area 17 rfl) ?_
  refine jz_putI (kz := 9) (dk dt_X5_area 18 rfl) fl_X5_112 rfl rfl rfl rfl rfl k_24 w_19 (r32_w _) (fun w_29 => ?_)
  replace H := H _ rfl
  refine j_aload_n (dk dt_X5_area 19 rfl) rfl ?_
  refine j_aload_n (dk dt_X5_area 20 rfl) rfl ?_
  refine jz_getI (kz := 9) (dk dt_X5_area 21 rfl) fl_X5_112 rfl rfl rfl k_24 ?_
  refine jz_callV1 (dk dt_X5_area 22 rfl) vl_X5_173 rfl (T_X5_isCorner (w_29.1 _ _) w_29 H) k_24 rfl (by decide) (Nat.zero_le _) (Nat.zero_le _) (Nat.le_of_ble_eq_true rfl) (fun v_37 h_37 P_37 => ?_)
  obtain ⟨x_37, z_37, rfl, r_37, rfl, w_37, H⟩ := P_37
  dsimp only [rs]
  refine jz_if_ne 53 (dk dt_X5_area 23 rfl) (by decide) r_37 H (fun H => ?_) (fun H => ?_)
  · refine j_aload_n (dk dt_X5_area 24 rfl) rfl ?_
    refine j_iconst (v := Int32.ofInt 1) (dk dt_X5_area 25 rfl) (by decide) ?_
    refine j_aload_n (dk dt_X5_area 26 rfl) rfl ?_
    obtain ⟨k_46, H⟩ := H
    refine jz_getI (kz := 9) (dk dt_X5_area 27 rfl) fl_X5_112 rfl rfl rfl k_46 ?_
    refine jz_callV2 (dk dt_X5_area 28 rfl) vl_X5_62 rfl (T_X5_fail (by decide) (w_37.1 _ _) w_37 H) k_46 rfl (by decide) (Nat.zero_le _) (Nat.zero_le _) (Nat.le_of_ble_eq_true rfl) (fun v_49 h_49 P_49 => ?_)
    obtain ⟨z_49, rfl, rfl, w_49, H⟩ := P_49
    dsimp only [rs]
    exact j_return (dk dt_X5_area 29 rfl) rfl ⟨_, rfl, rfl, w_49, H⟩
  · refine j_aload_n (dk dt_X5_area 30 rfl) rfl ?_
    refine j_aload_n (dk dt_X5_area 31 rfl) rfl ?_
    obtain ⟨k_55, H⟩ := H
    refine jz_getI (kz := 13) (dk dt_X5_area 32 rfl) fl_X5_197 rfl rfl rfl k_55 ?_
    obtain ⟨k_58, H⟩ := H
    refine jz_putI (kz := 5) (dk dt_X5_area 33 rfl) fl_X5_214 rfl rfl rfl rfl rfl k_58 w_37 (w_37.1 _ _) (fun w_58 => ?_)
    replace H := H _ rfl
    refine j_aload_n (dk dt_X5_area 34 rfl) rfl ?_
    refine j_aload_n (dk dt_X5_area 35 rfl) rfl ?_
    refine jz_getI (kz := 14) (dk dt_X5_area 36 rfl) fl_X5_194 rfl rfl rfl k_55 ?_
    refine jz_putI (kz := 6) (dk dt_X5_area 37 rfl) fl_X5_217 rfl rfl rfl rfl rfl k_58 w_58 (w_58.1 _ _) (fun w_66 => ?_)
    replace H := H _ rfl
    refine j_aload_n (dk dt_X5_area 38 rfl) rfl ?_
    refine j_aload_n (dk dt_X5_area 39 rfl) rfl ?_
    refine jz_getI (kz := 7) (dk dt_X5_area 40 rfl) fl_X5_220 rfl rfl rfl k_58 ?_
    refine j_iconst (v := Int32.ofInt 3) (dk dt_X5_area 41 rfl) (by decide) ?_
    refine jz_iand (dk dt_X5_area 42 rfl) ?_
    refine j_aload_n (dk dt_X5_area 43 rfl) rfl ?_
    refine jz_getI (kz := 15) (dk dt_X5_area 44 rfl) fl_X5_191 rfl rfl rfl k_55 ?_
    refine j_iconst (v := Int32.ofInt 2) (dk dt_X5_area 45 rfl) (by decide) ?_
    refine jz_ishl (dk dt_X5_area 46 rfl) ?_
    refine jz_ior (dk dt_X5_area 47 rfl) ?_
    refine jz_putI (kz := 7) (dk dt_X5_area 48 rfl) fl_X5_220 rfl rfl rfl rfl rfl k_58 w_66 (r32_t _) (fun w_83 => ?_)
    replace H := H _ rfl
    refine j_aload_n (dk dt_X5_area 49 rfl) rfl ?_
    refine j_aload_n (dk dt_X5_area 50 rfl) rfl ?_
    refine jz_getI (kz := 16) (dk dt_X5_area 51 rfl) fl_X5_200 rfl rfl rfl k_55 ?_
    refine jz_putI (kz := 9) (dk dt_X5_area 52 rfl) fl_X5_112 rfl rfl rfl rfl rfl k_55 w_83 (w_83.1 _ _) (fun w_91 => ?_)
    replace H := H _ rfl
    refine j_aload_n (dk dt_X5_area 53 rfl) rfl ?_
    refine j_aload_n (dk dt_X5_area 54 rfl) rfl ?_
    refine jz_callV1 (dk dt_X5_area 55 rfl) vl_X5_207 rfl (T_X5_readVersion w_91 H) k_55 rfl (by decide) (Nat.zero_le _) (Nat.zero_le _) (Nat.le_of_ble_eq_true rfl) (fun v_96 h_96 P_96 => ?_)
    obtain ⟨z_96, rfl, rfl, w_96, H⟩ := P_96
    dsimp only [rs]
    refine j_aload_n (dk dt_X5_area 56 rfl) rfl ?_
    refine j_aload_n (dk dt_X5_area 57 rfl) rfl ?_
    refine j_iload_n (dk dt_X5_area 58 rfl) rfl ?_
    obtain ⟨k_102, H⟩ := H
    refine jz_callV2 (dk dt_X5_area 59 rfl) vl_X5_210 rfl (T_X5_settle (hw.1 _ _) w_96 H) k_102 rfl (by decide) (Nat.zero_le _) (Nat.zero_le _) (Nat.le_of_ble_eq_true rfl) (fun v_102 h_102 P_102 => ?_)
    obtain ⟨z_102, rfl, rfl, w_102, H⟩ := P_102
    dsimp only [rs]
    exact j_return (dk dt_X5_area 60 rfl) rfl ⟨_, rfl, rfl, w_102, H⟩
