def F_X9_putInOrder_127  (t0 : Nat) (x1 : Int) (x2 : Int) (x3 : Int) (x4 : Int) (x5 : Int) (z : Z) (P : (Int × Int × Int × Z) ⊕ ((Int × Z)) → Prop) : Prop :=
  P (.inl (x2, x4, w32 (x5 + 1), z))
theorem T_X9_putInOrder_127  {t0 : Nat} {x1 : Int} {x2 : Int} {x3 : Int} {x4 : Int} {x5 : Int} {z : Z} {P : (Int × Int × Int × Z) ⊕ ((Int × Z)) → Prop} {post : Option Sv ⊕ String → Hp → Prop} (r_x1 : R32 x1) (r_x2 : R32 x2) (r_x3 : R32 x3) (r_x4 : R32 x4) (r_x5 : R32 x5) (hw : Wz z)  (hl : ∀ (x2 : Int) (x4 : Int) (x5 : Int) (z : Z), P (.inl (x2, x4, x5, z)) → Wz z → R32 x2 → R32 x4 → R32 x5 → J mX9_putInOrder 6 0 0 post 33 [some (vr (some t0)), some (ii (x1)), some (ii (x2)), some (ii (x3)), some (ii (x4)), some (ii (x5)), none] [] (cz z)) (he0 : ∀ (x2 : Int) (z : Z), P (.inr (x2, z)) → Wz z → R32 x2 → J mX9_putInOrder 6 0 0 post 133 [some (vr (some t0)), some (ii (x1)), some (ii (x2)), some (ii (x3)), none, none, none] [] (cz z)) (H : F_X9_putInOrder_127 t0 x1 x2 x3 x4 x5 z P) : J mX9_putInOrder 6 0 0 (post) 127 [some (vr (some t0)), some (ii (x1)), some (ii (x2)), some (ii (x3)), some (ii (x4)), some (ii (x5)), none] [] (cz z) := by
  unfold F_X9_putInOrder_127 at H
  refine jz_iinc (dk dt_X9_putInOrder 68 rfl) rfl ?_
  refine j_goto 33 (dk dt_X9_putInOrder 69 rfl) (by decide) ?_
  exact j_el (hl _ _ _ _ H hw r_x2 r_x4 (r32_w _)) (And.intro rfl (And.intro rfl (And.intro rfl (And.intro rfl (And.intro rfl (And.intro rfl trivial))))))
def F_X9_putInOrder_97  (t0 : Nat) (x1 : Int) (x2 : Int) (x3 : Int) (x4 : Int) (x5 : Int) (z : Z) (P : (Int × Int × Int × Z) ⊕ ((Int × Z)) → Prop) : Prop :=
  (zK z t0 = 10 ∧ (∃ a_111, zO z t0 6 = some a_111 ∧ zK z a_111 = 15 ∧ (0 ≤ w32 (x4 + (-1)) ∧ w32 (x4 + (-1)) < zN z a_111 ∧ (∃ a_112, zO z t0 7 = some a_112 ∧ zK z a_112 = 15 ∧ (0 ≤ x2 ∧ x2 < zN z a_112 ∧ (∀ z_112, z_112 = wI z a_112 x2 (zI z a_111 (w32 (x4 + (-1)))) → (∃ a_123, zO z_112 t0 6 = some a_123 ∧ zK z_112 a_123 = 15 ∧ (0 ≤ w32 (x4 + (-1)) ∧ w32 (x4 + (-1)) < zN z_112 a_123 ∧ F_X9_close t0 (zI z_112 a_123 (w32 (x4 + (-1)))) z_112 (fun z_124 => F_X9_putInOrder_127 t0 x1 (w32 (x2 + 1)) x3 (w32 (x4 + (-1))) x5 z_124 P)))))))))
theorem T_X9_putInOrder_97  {t0 : Nat} {x1 : Int} {x2 : Int} {x3 : Int} {x4 : Int} {x5 : Int} {z : Z} {P : (Int × Int × Int × Z) ⊕ ((Int × Z)) → Prop} {post : Option Sv ⊕ String → Hp → Prop} (r_x1 : R32 x1) (r_x2 : R32 x2) (r_x3 : R32 x3) (r_x4 : R32 x4) (r_x5 : R32 x5) (hw : Wz z)  (hl : ∀ (x2 : Int) (x4 : Int) (x5 : Int) (z : Z), P (.inl (x2, x4, x5, z)) → Wz z → R32 x2 → R32 x4 → R32 x5 → J mX9_putInOrder 6 0 0 post 33 [some (vr (some t0)), some (ii (x1)), some (ii (x2)), some (ii (x3)), some (ii (x4)), some (ii (x5)), none] [] (cz z)) (he0 : ∀ (x2 : Int) (z : Z), P (.inr (x2, z)) → Wz z → R32 x2 → J mX9_putInOrder 6 0 0 post 133 [some (vr (some t0)), some (ii (x1)), some (ii (x2)), some (ii (x3)), none, none, none] [] (cz z)) (H : F_X9_putInOrder_97 t0 x1 x2 x3 x4 x5 z P) : J mX9_putInOrder 6 0 0 (post) 97 [some (vr (some t0)), some (ii (x1)), some (ii (x2)), some (ii (x3)), some (ii (x4)), some (ii (x5)), none] [] (cz z) := by
  unfold F_X9_putInOrder_97 at H
  refine jz_iinc (dk dt_X9_putInOrder 52 rfl) rfl ?_
  refine j_aload_n (dk dt_X9_putInOrder 53 rfl) rfl ?_
  obtain ⟨k_101, H⟩ := H
  refine jz_getO (kz := 7) (dk dt_X9_putInOrder 54 rfl) fl_X9_38 rfl rfl rfl k_101 ?_
  refine j_iload_n (dk dt_X9_putInOrder 55 rfl) rfl ?_
  refine j_aload_n (dk dt_X9_putInOrder 56 rfl) rfl ?_
  refine jz_getO (kz := 6) (dk dt_X9_putInOrder 57 rfl) fl_X9_34 rfl rfl rfl k_101 ?_
  refine j_iload (dk dt_X9_putInOrder 58 rfl) rfl ?_
  obtain ⟨a_111, e_111, k_111, H⟩ := H
  obtain ⟨p_111, q_111, H⟩ := H
  refine jz_iald (dk dt_X9_putInOrder 59 rfl) e_111 k_111 p_111 q_111 hw ?_
  obtain ⟨a_112, e_112, k_112, H⟩ := H
  obtain ⟨p_112, q_112, H⟩ := H
  refine jz_iast (dk dt_X9_putInOrder 60 rfl) e_112 k_112 p_112 q_112 hw (hw.1 _ _) (fun w_112 => ?_)
  replace H := H _ rfl
  refine jz_iinc (dk dt_X9_putInOrder 61 rfl) rfl ?_
  refine j_aload_n (dk dt_X9_putInOrder 62 rfl) rfl ?_
  refine j_aload_n (dk dt_X9_putInOrder 63 rfl) rfl ?_
  refine jz_getO (kz := 6) (dk dt_X9_putInOrder 64 rfl) fl_X9_34 rfl rfl rfl k_101 ?_
  refine j_iload (dk dt_X9_putInOrder 65 rfl) rfl ?_
  obtain ⟨a_123, e_123, k_123, H⟩ := H
  obtain ⟨p_123, q_123, H⟩ := H
  refine jz_iald (dk dt_X9_putInOrder 66 rfl) e_123 k_123 p_123 q_123 w_112 ?_
  refine jz_callV1 (dk dt_X9_putInOrder 67 rfl) vl_X9_149 rfl (T_X9_close (w_112.1 _ _) w_112 H) k_101 rfl (by decide) (Nat.zero_le _) (Nat.zero_le _) (Nat.le_of_ble_eq_true rfl) (fun v_124 h_124 P_124 => ?_)
  obtain ⟨z_124, rfl, rfl, w_124, H⟩ := P_124
  dsimp only [rs]
  exact j_el (T_X9_putInOrder_127 r_x1 (r32_w _) r_x3 (r32_w _) r_x5 w_124  hl he0 H) (And.intro rfl (And.intro rfl (And.intro rfl (And.intro rfl (And.intro rfl (And.intro rfl trivial))))))
def L_X9_putInOrder_33  (t0 : Nat) (x1 : Int) (x2 : Int) (x3 : Int) (x4 : Int) (x5 : Int) (z : Z) (P : (Int × Int × Int × Z) ⊕ ((Int × Z)) → Prop) : Prop :=
  (if 640 ≤ x5 then P (.inr (x2, z)) else (if x4 ≤ 0 then P (.inr (x2, z)) else (if 320 ≤ x2 then P (.inr (x2, z)) else (zK z t0 = 10 ∧ (∃ a_62, zO z t0 6 = some a_62 ∧ zK z a_62 = 15 ∧ (0 ≤ w32 (x4 - 1) ∧ w32 (x4 - 1) < zN z a_62 ∧ F_X9_firstOpenOf t0 (zI z a_62 (w32 (x4 - 1))) z (fun x_63 => (if x_63 = (-1) then F_X9_putInOrder_97 t0 x1 x2 x3 x4 x5 z P else (if 320 ≤ x4 then F_X9_putInOrder_97 t0 x1 x2 x3 x4 x5 z P else (0 ≤ x4 ∧ x4 < zN z a_62 ∧ (∀ z_90, z_90 = wI z a_62 x4 x_63 → F_X9_putInOrder_127 t0 x1 x2 x3 (w32 (x4 + 1)) x5 z_90 P)))))))))))
theorem U_X9_putInOrder_33  {t0 : Nat} {x1 : Int} {x2 : Int} {x3 : Int} {x4 : Int} {x5 : Int} {z : Z} {P : (Int × Int × Int × Z) ⊕ ((Int × Z)) → Prop} {post : Option Sv ⊕ String → Hp → Prop} (r_x1 : R32 x1) (r_x2 : R32 x2) (r_x3 : R32 x3) (r_x4 : R32 x4) (r_x5 : R32 x5) (hw : Wz z)  (hl : ∀ (x2 : Int) (x4 : Int) (x5 : Int) (z : Z), P (.inl (x2, x4, x5, z)) → Wz z → R32 x2 → R32 x4 → R32 x5 → J mX9_putInOrder 6 0 0 post 33 [some (vr (some t0)), some (ii (x1)), some (ii (x2)), some (ii (x3)), some (ii (x4)), some (ii (x5)), none] [] (cz z)) (he0 : ∀ (x2 : Int) (z : Z), P (.inr (x2, z)) → Wz z → R32 x2 → J mX9_putInOrder 6 0 0 post 133 [some (vr (some t0)), some (ii (x1)), some (ii (x2)), some (ii (x3)), none, none, none] [] (cz z)) (H : L_X9_putInOrder_33 t0 x1 x2 x3 x4 x5 z P) : J mX9_putInOrder 6 0 0 post 33 [some (vr (some t0)), some (ii (x1)), some (ii (x2)), some (ii (x3)), some (ii (x4)), some (ii (x5)), none] [] (cz z) := by
  unfold L_X9_putInOrder_33 at H
  refine j_iload (dk dt_X9_putInOrder 22 rfl) rfl ?_
  refine j_sipush (v := Int32.ofInt 640) (dk dt_X9_putInOrder 23 rfl) (by decide) ?_
  refine jz_icmp_ge 133 (dk dt_X9_putInOrder 24 rfl) (by decide) r_x5 (by decide) H (fun H => ?_) (fun H => ?_)
  · exact j_el (he0 _ _ H hw r_x2) (And.intro rfl (And.intro rfl (And.intro rfl (And.intro rfl trivial))))
  · refine j_iload (dk dt_X9_putInOrder 25 rfl) rfl ?_
    refine jz_if_le 133 (dk dt_X9_putInOrder 26 rfl) (by decide) r_x4 H (fun H => ?_) (fun H => ?_)
    · exact j_el (he0 _ _ H hw r_x2) (And.intro rfl (And.intro rfl (And.intro rfl (And.intro rfl trivial))))
    · refine j_iload_n (dk dt_X9_putInOrder 27 rfl) rfl ?_
      refine j_sipush (v := Int32.ofInt 320) (dk dt_X9_putInOrder 28 rfl) (by decide) ?_
      refine jz_icmp_ge 133 (dk dt_X9_putInOrder 29 rfl) (by decide) r_x2 (by decide) H (fun H => ?_) (fun H => ?_)
      · exact j_el (he0 _ _ H hw r_x2) (And.intro rfl (And.intro rfl (And.intro rfl (And.intro rfl trivial))))
      · refine j_aload_n (dk dt_X9_putInOrder 30 rfl) rfl ?_
        refine j_aload_n (dk dt_X9_putInOrder 31 rfl) rfl ?_
        obtain ⟨k_55, H⟩ := H
        refine jz_getO (kz := 6) (dk dt_X9_putInOrder 32 rfl) fl_X9_34 rfl rfl rfl k_55 ?_
        refine j_iload (dk dt_X9_putInOrder 33 rfl) rfl ?_
        refine j_iconst (v := Int32.ofInt 1) (dk dt_X9_putInOrder 34 rfl) (by decide) ?_
        refine jz_isub (dk dt_X9_putInOrder 35 rfl) ?_
        obtain ⟨a_62, e_62, k_62, H⟩ := H
        obtain ⟨p_62, q_62, H⟩ := H
        refine jz_iald (dk dt_X9_putInOrder 36 rfl) e_62 k_62 p_62 q_62 hw ?_
        refine jz_callV1 (dk dt_X9_putInOrder 37 rfl) vl_X9_152 rfl (T_X9_firstOpenOf (hw.1 _ _) hw H) k_55 rfl (by decide) (Nat.zero_le _) (Nat.zero_le _) (Nat.le_of_ble_eq_true rfl) (fun v_63 h_63 P_63 => ?_)
        obtain ⟨x_63, rfl, r_63, rfl, H⟩ := P_63
        dsimp only [rs]
        refine j_istore (dk dt_X9_putInOrder 38 rfl) (by decide) ?_
        refine j_iload (dk dt_X9_putInOrder 39 rfl) rfl ?_
        refine j_iconst (v := Int32.ofInt (-1)) (dk dt_X9_putInOrder 40 rfl) (by decide) ?_
        refine jz_icmp_eq 97 (dk dt_X9_putInOrder 41 rfl) (by decide) r_63 (by decide) H (fun H => ?_) (fun H => ?_)
        · exact j_el (T_X9_putInOrder_97 r_x1 r_x2 r_x3 r_x4 r_x5 hw  hl he0 H) (And.intro rfl (And.intro rfl (And.intro rfl (And.intro rfl (And.intro rfl (And.intro rfl trivial))))))
        · refine j_iload (dk dt_X9_putInOrder 42 rfl) rfl ?_
          refine j_sipush (v := Int32.ofInt 320) (dk dt_X9_putInOrder 43 rfl) (by decide) ?_
          refine jz_icmp_ge 97 (dk dt_X9_putInOrder 44 rfl) (by decide) r_x4 (by decide) H (fun H => ?_) (fun H => ?_)
          · exact j_el (T_X9_putInOrder_97 r_x1 r_x2 r_x3 r_x4 r_x5 hw  hl he0 H) (And.intro rfl (And.intro rfl (And.intro rfl (And.intro rfl (And.intro rfl (And.intro rfl trivial))))))
          · refine j_aload_n (dk dt_X9_putInOrder 45 rfl) rfl ?_
            refine jz_getO (kz := 6) (dk dt_X9_putInOrder 46 rfl) fl_X9_34 rfl rfl rfl k_55 ?_
            refine j_iload (dk dt_X9_putInOrder 47 rfl) rfl ?_
            refine j_iload (dk dt_X9_putInOrder 48 rfl) rfl ?_
            obtain ⟨p_90, q_90, H⟩ := H
            refine jz_iast (dk dt_X9_putInOrder 49 rfl) e_62 k_62 p_90 q_90 hw r_63 (fun w_90 => ?_)
            replace H := H _ rfl
            refine jz_iinc (dk dt_X9_putInOrder 50 rfl) rfl ?_
            refine j_goto 127 (dk dt_X9_putInOrder 51 rfl) (by decide) ?_
            exact j_el (T_X9_putInOrder_127 r_x1 r_x2 r_x3 (r32_w _) r_x5 w_90  hl he0 H) (And.intro rfl (And.intro rfl (And.intro rfl (And.intro rfl (And.intro rfl (And.intro rfl trivial))))))
def F_X9_putInOrder_133  (t0 : Nat) (x1 : Int) (x2 : Int) (x3 : Int) (z : Z) (P : (Int × Int × Z) ⊕ ((Int × Z)) → Prop) : Prop :=
  P (.inl (x2, w32 (x3 + 1), z))
theorem T_X9_putInOrder_133  {t0 : Nat} {x1 : Int} {x2 : Int} {x3 : Int} {z : Z} {P : (Int × Int × Z) ⊕ ((Int × Z)) → Prop} {post : Option Sv ⊕ String → Hp → Prop} (r_x1 : R32 x1) (r_x2 : R32 x2) (r_x3 : R32 x3) (hw : Wz z)  (hl : ∀ (x2 : Int) (x3 : Int) (z : Z), P (.inl (x2, x3, z)) → Wz z → R32 x2 → R32 x3 → J mX9_putInOrder 6 0 0 post 4 [some (vr (some t0)), some (ii (x1)), some (ii (x2)), some (ii (x3)), none, none, none] [] (cz z)) (he0 : ∀ (x2 : Int) (z : Z), P (.inr (x2, z)) → Wz z → R32 x2 → J mX9_putInOrder 6 0 0 post 139 [none, none, some (ii (x2)), none, none, none, none] [] (cz z)) (H : F_X9_putInOrder_133 t0 x1 x2 x3 z P) : J mX9_putInOrder 6 0 0 (post) 133 [some (vr (some t0)), some (ii (x1)), some (ii (x2)), some (ii (x3)), none, none, none] [] (cz z) := by
  unfold F_X9_putInOrder_133 at H
  refine jz_iinc (dk dt_X9_putInOrder 70 rfl) rfl ?_
  refine j_goto 4 (dk dt_X9_putInOrder 71 rfl) (by decide) ?_
  exact j_el (hl _ _ _ H hw r_x2 (r32_w _)) (And.intro rfl (And.intro rfl (And.intro rfl (And.intro rfl trivial))))
def F_X9_putInOrder_33  (t0 : Nat) (x1 : Int) (x2 : Int) (x3 : Int) (x4 : Int) (x5 : Int) (z : Z) (P : (Int × Int × Z) ⊕ ((Int × Z)) → Prop) : Prop :=
  lp (S := Int × Int × Int × Z) (E := (Int × Z)) (fun q P_ => L_X9_putInOrder_33 t0 x1 q.1 x3 q.2.1 q.2.2.1 q.2.2.2 P_) (x2, x4, x5, z) (fun e => match e with | (x2, z) => F_X9_putInOrder_133 t0 x1 x2 x3 z P)
theorem T_X9_putInOrder_33  {t0 : Nat} {x1 : Int} {x2 : Int} {x3 : Int} {x4 : Int} {x5 : Int} {z : Z} {P : (Int × Int × Z) ⊕ ((Int × Z)) → Prop} {post : Option Sv ⊕ String → Hp → Prop} (r_x1 : R32 x1) (r_x2 : R32 x2) (r_x3 : R32 x3) (r_x4 : R32 x4) (r_x5 : R32 x5) (hw : Wz z)  (hl : ∀ (x2 : Int) (x3 : Int) (z : Z), P (.inl (x2, x3, z)) → Wz z → R32 x2 → R32 x3 → J mX9_putInOrder 6 0 0 post 4 [some (vr (some t0)), some (ii (x1)), some (ii (x2)), some (ii (x3)), none, none, none] [] (cz z)) (he0 : ∀ (x2 : Int) (z : Z), P (.inr (x2, z)) → Wz z → R32 x2 → J mX9_putInOrder 6 0 0 post 139 [none, none, some (ii (x2)), none, none, none, none] [] (cz z)) (H : F_X9_putInOrder_33 t0 x1 x2 x3 x4 x5 z P) : J mX9_putInOrder 6 0 0 (post) 33 [some (vr (some t0)), some (ii (x1)), some (ii (x2)), some (ii (x3)), some (ii (x4)), some (ii (x5)), none] [] (cz z) := by
  unfold F_X9_putInOrder_33 at H
  refine lp_J (G := fun q => Wz (q.2.2.2) → R32 (q.1) → R32 (q.2.1) → R32 (q.2.2.1) → J mX9_putInOrder 6 0 0 (post) 33 [some (vr (some t0)), some (ii (x1)), some (ii ((q.1))), some (ii (x3)), some (ii ((q.2.1))), some (ii ((q.2.2.1))), none] [] (cz (q.2.2.2))) (fun q P_ hl_ he_ Hb => ?_) (x2, x4, x5, z) H hw r_x2 r_x4 r_x5
  obtain ⟨x2, x4, x5, z⟩ := q
  intro hw r_x2 r_x4 r_x5
  refine U_X9_putInOrder_33 (P := P_) r_x1 r_x2 r_x3 r_x4 r_x5 hw  (fun x2 x4 x5 z Hp hw r_x2 r_x4 r_x5 => hl_ (x2, x4, x5, z) Hp hw r_x2 r_x4 r_x5) ?_ Hb
  · intro x2 z Hp hw r_x2
    have H := he_ _ Hp
    exact j_el (T_X9_putInOrder_133 r_x1 r_x2 r_x3 hw  hl he0 H) (And.intro rfl (And.intro rfl (And.intro rfl (And.intro rfl trivial))))
def F_X9_putInOrder_30  (t0 : Nat) (x1 : Int) (x2 : Int) (x3 : Int) (x4 : Int) (z : Z) (P : (Int × Int × Z) ⊕ ((Int × Z)) → Prop) : Prop :=
  F_X9_putInOrder_33 t0 x1 x2 x3 x4 0 z P
theorem T_X9_putInOrder_30  {t0 : Nat} {x1 : Int} {x2 : Int} {x3 : Int} {x4 : Int} {z : Z} {P : (Int × Int × Z) ⊕ ((Int × Z)) → Prop} {post : Option Sv ⊕ String → Hp → Prop} (r_x1 : R32 x1) (r_x2 : R32 x2) (r_x3 : R32 x3) (r_x4 : R32 x4) (hw : Wz z)  (hl : ∀ (x2 : Int) (x3 : Int) (z : Z), P (.inl (x2, x3, z)) → Wz z → R32 x2 → R32 x3 → J mX9_putInOrder 6 0 0 post 4 [some (vr (some t0)), some (ii (x1)), some (ii (x2)), some (ii (x3)), none, none, none] [] (cz z)) (he0 : ∀ (x2 : Int) (z : Z), P (.inr (x2, z)) → Wz z → R32 x2 → J mX9_putInOrder 6 0 0 post 139 [none, none, some (ii (x2)), none, none, none, none] [] (cz z)) (H : F_X9_putInOrder_30 t0 x1 x2 x3 x4 z P) : J mX9_putInOrder 6 0 0 (post) 30 [some (vr (some t0)), some (ii (x1)), some (ii (x2)), some (ii (x3)), some (ii (x4)), none, none] [] (cz z) := by
  unfold F_X9_putInOrder_30 at H
  refine j_iconst (v := Int32.ofInt 0) (dk dt_X9_putInOrder 20 rfl) (by decide) ?_
  refine j_istore (dk dt_X9_putInOrder 21 rfl) (by decide) ?_
  exact j_el (T_X9_putInOrder_33 r_x1 r_x2 r_x3 r_x4 (by decide) hw  hl he0 H) (And.intro rfl (And.intro rfl (And.intro rfl (And.intro rfl (And.intro rfl (And.intro rfl trivial))))))
def L_X9_putInOrder_4  (t0 : Nat) (x1 : Int) (x2 : Int) (x3 : Int) (z : Z) (P : (Int × Int × Z) ⊕ ((Int × Z)) → Prop) : Prop :=
  (if x1 ≤ x3 then P (.inr (x2, z)) else (zK z t0 = 10 ∧ F_X9_isOpen t0 x3 z (fun x_14 => (if x_14 = 0 then F_X9_putInOrder_30 t0 x1 x2 x3 0 z P else (∃ a_26, zO z t0 6 = some a_26 ∧ zK z a_26 = 15 ∧ ((0 : Int) ≤ 0 ∧ 0 < zN z a_26 ∧ (∀ z_26, z_26 = wI z a_26 0 x3 → F_X9_putInOrder_30 t0 x1 x2 x3 1 z_26 P)))))))
theorem U_X9_putInOrder_4  {t0 : Nat} {x1 : Int} {x2 : Int} {x3 : Int} {z : Z} {P : (Int × Int × Z) ⊕ ((Int × Z)) → Prop} {post : Option Sv ⊕ String → Hp → Prop} (r_x1 : R32 x1) (r_x2 : R32 x2) (r_x3 : R32 x3) (hw : Wz z)  (hl : ∀ (x2 : Int) (x3 : Int) (z : Z), P (.inl (x2, x3, z)) → Wz z → R32 x2 → R32 x3 → J mX9_putInOrder 6 0 0 post 4 [some (vr (some t0)), some (ii (x1)), some (ii (x2)), some (ii (x3)), none, none, none] [] (cz z)) (he0 : ∀ (x2 : Int) (z : Z), P (.inr (x2, z)) → Wz z → R32 x2 → J mX9_putInOrder 6 0 0 post 139 [none, none, some (ii (x2)), none, none, none, none] [] (cz z)) (H : L_X9_putInOrder_4 t0 x1 x2 x3 z P) : J mX9_putInOrder 6 0 0 post 4 [some (vr (some t0)), some (ii (x1)), some (ii (x2)), some (ii (x3)), none, none, none] [] (cz z) := by
  unfold L_X9_putInOrder_4 at H
  refine j_iload_n (dk dt_X9_putInOrder 4 rfl) rfl ?_
  refine j_iload_n (dk dt_X9_putInOrder 5 rfl) rfl ?_
  refine jz_icmp_ge 139 (dk dt_X9_putInOrder 6 rfl) (by decide) r_x3 r_x1 H (fun H => ?_) (fun H => ?_)
  · exact j_el (he0 _ _ H hw r_x2) (And.intro rfl trivial)
  · refine j_iconst (v := Int32.ofInt 0) (dk dt_X9_putInOrder 7 rfl) (by decide) ?_
    refine j_istore (dk dt_X9_putInOrder 8 rfl) (by decide) ?_
    refine j_aload_n (dk dt_X9_putInOrder 9 rfl) rfl ?_
    refine j_iload_n (dk dt_X9_putInOrder 10 rfl) rfl ?_
    obtain ⟨k_14, H⟩ := H
    refine jz_callV1 (dk dt_X9_putInOrder 11 rfl) vl_X9_136 rfl (T_X9_isOpen r_x3 hw H) k_14 rfl (by decide) (Nat.zero_le _) (Nat.zero_le _) (Nat.le_of_ble_eq_true rfl) (fun v_14 h_14 P_14 => ?_)
    obtain ⟨x_14, rfl, r_14, rfl, H⟩ := P_14
    dsimp only [rs]
    refine jz_if_eq 30 (dk dt_X9_putInOrder 12 rfl) (by decide) r_14 H (fun H => ?_) (fun H => ?_)
    · exact j_el (T_X9_putInOrder_30 r_x1 r_x2 r_x3 (by decide) hw  hl he0 H) (And.intro rfl (And.intro rfl (And.intro rfl (And.intro rfl (And.intro rfl trivial)))))
    · refine j_aload_n (dk dt_X9_putInOrder 13 rfl) rfl ?_
      refine jz_getO (kz := 6) (dk dt_X9_putInOrder 14 rfl) fl_X9_34 rfl rfl rfl k_14 ?_
      refine j_iconst (v := Int32.ofInt 0) (dk dt_X9_putInOrder 15 rfl) (by decide) ?_
      refine j_iload_n (dk dt_X9_putInOrder 16 rfl) rfl ?_
      obtain ⟨a_26, e_26, k_26, H⟩ := H
      obtain ⟨p_26, q_26, H⟩ := H
      refine jz_iast (dk dt_X9_putInOrder 17 rfl) e_26 k_26 p_26 q_26 hw r_x3 (fun w_26 => ?_)
      replace H := H _ rfl
      refine j_iconst (v := Int32.ofInt 1) (dk dt_X9_putInOrder 18 rfl) (by decide) ?_
      refine j_istore (dk dt_X9_putInOrder 19 rfl) (by decide) ?_
      exact j_el (T_X9_putInOrder_30 r_x1 r_x2 r_x3 (by decide) w_26  hl he0 H) (And.intro rfl (And.intro rfl (And.intro rfl (And.intro rfl (And.intro rfl trivial)))))
def F_X9_putInOrder_4  (t0 : Nat) (x1 : Int) (x2 : Int) (x3 : Int) (z : Z) (P : Int → Z → Prop) : Prop :=
  lp (S := Int × Int × Z) (E := (Int × Z)) (fun q P_ => L_X9_putInOrder_4 t0 x1 q.1 q.2.1 q.2.2 P_) (x2, x3, z) (fun e => match e with | (x2, z) => P x2 z)
theorem T_X9_putInOrder_4  {t0 : Nat} {x1 : Int} {x2 : Int} {x3 : Int} {z : Z} {P : Int → Z → Prop} (r_x1 : R32 x1) (r_x2 : R32 x2) (r_x3 : R32 x3) (hw : Wz z)   (H : F_X9_putInOrder_4 t0 x1 x2 x3 z P) : J mX9_putInOrder 6 0 0 (nx (QZI P)) 4 [some (vr (some t0)), some (ii (x1)), some (ii (x2)), some (ii (x3)), none, none, none] [] (cz z) := by
  unfold F_X9_putInOrder_4 at H
  refine lp_J (G := fun q => Wz (q.2.2) → R32 (q.1) → R32 (q.2.1) → J mX9_putInOrder 6 0 0 (nx (QZI P)) 4 [some (vr (some t0)), some (ii (x1)), some (ii ((q.1))), some (ii ((q.2.1))), none, none, none] [] (cz (q.2.2))) (fun q P_ hl_ he_ Hb => ?_) (x2, x3, z) H hw r_x2 r_x3
  obtain ⟨x2, x3, z⟩ := q
  intro hw r_x2 r_x3
  refine U_X9_putInOrder_4 (P := P_) r_x1 r_x2 r_x3 hw  (fun x2 x3 z Hp hw r_x2 r_x3 => hl_ (x2, x3, z) Hp hw r_x2 r_x3) ?_ Hb
  · intro x2 z Hp hw r_x2
    have H := he_ _ Hp
    refine j_iload_n (dk dt_X9_putInOrder 72 rfl) rfl ?_
    exact j_ireturn (dk dt_X9_putInOrder 73 rfl) rfl rfl ⟨_, _, rfl, r_x2, rfl, hw, H⟩
def F_X9_putInOrder  (t0 : Nat) (x1 : Int) (z : Z) (P : Int → Z → Prop) : Prop :=
  F_X9_putInOrder_4 t0 x1 0 0 z P
theorem T_X9_putInOrder  {t0 : Nat} {x1 : Int} {z : Z} {P : Int → Z → Prop} (r_x1 : R32 x1) (hw : Wz z)  (H : F_X9_putInOrder t0 x1 z P) : Con mX9_putInOrder 6 0 0 [vr (some t0), ii (x1)] (cz z) (QZI P) := by
  refine con_of rfl (Nat.le_of_ble_eq_true rfl) (by decide) ?_
  show J mX9_putInOrder 6 0 0 _ 0 [some (vr (some t0)), some (ii (x1)), none, none, none, none, none] [] (cz z)
  unfold F_X9_putInOrder at H
  refine j_iconst (v := Int32.ofInt 0) (dk dt_X9_putInOrder 0 rfl) (by decide) ?_
  refine j_istore_n (dk dt_X9_putInOrder 1 rfl) (by decide) ?_
  refine j_iconst (v := Int32.ofInt 0) (dk dt_X9_putInOrder 2 rfl) (by decide) ?_
  refine j_istore_n (dk dt_X9_putInOrder 3 rfl) (by decide) ?_
  exact j_el (T_X9_putInOrder_4 r_x1 (by decide) (by decide) hw   H) (And.intro rfl (And.intro rfl (And.intro rfl (And.intro rfl trivial))))
def F_X9_reaches_30  (s0 : Int) (z : Z) (P : Int → Prop) : Prop :=
  (Z1 s0 ∧ P s0)
theorem T_X9_reaches_30  {s0 : Int} {z : Z} {P : Int → Prop} (r_s0 : R32 s0) (hw : Wz z)   (H : F_X9_reaches_30 s0 z P) : J mX9_reaches 1 0 0 (nx (QPI (cz z) P)) 30 [none, none, none] [ii (s0)] (cz z) := by
  unfold F_X9_reaches_30 at H
  obtain ⟨hz_, H⟩ := H
  exact j_ireturn (dk dt_X9_reaches 22 rfl) rfl (nar_z hz_) ⟨_, rfl, r_s0, rfl, H⟩
def F_X9_reaches  (t0 : Nat) (x1 : Int) (x2 : Int) (z : Z) (P : Int → Prop) : Prop :=
  (zK z t0 = 10 ∧ (∃ a_12, zO z t0 4 = some a_12 ∧ zK z a_12 = 16 ∧ (0 ≤ w32 (w32 (x1 * 5) + (w32 (Int.tdiv x2 64))) ∧ w32 (w32 (x1 * 5) + (w32 (Int.tdiv x2 64))) < zN z a_12 ∧ (if lAnd (lShr (zG z a_12 (w32 (w32 (x1 * 5) + (w32 (Int.tdiv x2 64))))) (w32 (Int.tmod x2 64))) 1 = 0 then F_X9_reaches_30 0 z P else F_X9_reaches_30 1 z P))))
theorem T_X9_reaches  {t0 : Nat} {x1 : Int} {x2 : Int} {z : Z} {P : Int → Prop} (r_x1 : R32 x1) (r_x2 : R32 x2) (hw : Wz z)  (H : F_X9_reaches t0 x1 x2 z P) : Con mX9_reaches 1 0 0 [vr (some t0), ii (x1), ii (x2)] (cz z) (QPI (cz z) P) := by
  refine con_of rfl (Nat.le_of_ble_eq_true rfl) (by decide) ?_
  show J mX9_reaches 1 0 0 _ 0 [some (vr (some t0)), some (ii (x1)), some (ii (x2))] [] (cz z)
  unfold F_X9_reaches at H
  refine j_aload_n (dk dt_X9_reaches 0 rfl) rfl ?_
  obtain ⟨k_1, H⟩ := H
  refine jz_getO (kz := 4) (dk dt_X9_reaches 1 rfl) fl_X9_28 rfl rfl rfl k_1 ?_
  refine j_iload_n (dk dt_X9_reaches 2 rfl) rfl ?_
  refine j_iconst (v := Int32.ofInt 5) (dk dt_X9_reaches 3 rfl) (by decide) ?_
  refine jz_imul (dk dt_X9_reaches 4 rfl) ?_
  refine j_iload_n (dk dt_X9_reaches 5 rfl) rfl ?_
  refine j_bipush (v := Int32.ofInt 64) (dk dt_X9_reaches 6 rfl) (by decide) ?_
  refine jz_idiv (dk dt_X9_reaches 7 rfl) r_x2 (by decide) (by decide) ?_
  refine jz_iadd (dk dt_X9_reaches 8 rfl) ?_
  obtain ⟨a_12, e_12, k_12, H⟩ := H
  obtain ⟨p_12, q_12, H⟩ := H
  refine jz_lald (dk dt_X9_reaches 9 rfl) e_12 k_12 p_12 q_12 hw ?_
  refine j_iload_n (dk dt_X9_reaches 10 rfl) rfl ?_
  refine j_bipush (v := Int32.ofInt 64) (dk dt_X9_reaches 11 rfl) (by decide) ?_
  refine jz_irem (dk dt_X9_reaches 12 rfl) r_x2 (by decide) (by decide) ?_
  refine jz_lshr (dk dt_X9_reaches 13 rfl) ?_
  refine j_lconst (v := Int64.ofInt 1) (dk dt_X9_reaches 14 rfl) (by decide) ?_
  refine jz_land (dk dt_X9_reaches 15 rfl) ?_
  refine j_lconst (v := Int64.ofInt 0) (dk dt_X9_reaches 16 rfl) (by decide) ?_
  refine jz_lcmp (dk dt_X9_reaches 17 rfl) (r64_t _) (by decide) ?_
  refine jz_lif_eq 29 (dk dt_X9_reaches 18 rfl) (by decide) H (fun H => ?_) (fun H => ?_)
  · refine j_iconst (v := Int32.ofInt 0) (dk dt_X9_reaches 21 rfl) (by decide) ?_
    exact j_el (T_X9_reaches_30 (by decide) hw   H) trivial
  · refine j_iconst (v := Int32.ofInt 1) (dk dt_X9_reaches 19 rfl) (by decide) ?_
    refine j_goto 30 (dk dt_X9_reaches 20 rfl) (by decide) ?_
    exact j_el (T_X9_reaches_30 (by decide) hw   H) trivial
def F_X9_settleCircles_95  (t0 : Nat) (x1 : Int) (x2 : Int) (x3 : Int) (z : Z) (P : (Int × Z) ⊕ ((Z)) → Prop) : Prop :=
  P (.inl (w32 (x3 + 1), z))
theorem T_X9_settleCircles_95  {t0 : Nat} {x1 : Int} {x2 : Int} {x3 : Int} {z : Z} {P : (Int × Z) ⊕ ((Z)) → Prop} {post : Option Sv ⊕ String → Hp → Prop} (r_x1 : R32 x1) (r_x2 : R32 x2) (r_x3 : R32 x3) (hw : Wz z)  (hl : ∀ (x3 : Int) (z : Z), P (.inl (x3, z)) → Wz z → R32 x3 → J mX9_settleCircles 4 0 0 post 25 [some (vr (some t0)), some (ii (x1)), some (ii (x2)), some (ii (x3)), none] [] (cz z)) (he0 : ∀ (z : Z), P (.inr z) → Wz z → J mX9_settleCircles 4 0 0 post 101 [some (vr (some t0)), some (ii (x1)), some (ii (x2)), none, none] [] (cz z)) (H : F_X9_settleCircles_95 t0 x1 x2 x3 z P) : J mX9_settleCircles 4 0 0 (post) 95 [some (vr (some t0)), some (ii (x1)), some (ii (x2)), some (ii (x3)), none] [] (cz z) := by
  unfold F_X9_settleCircles_95 at H
  refine jz_iinc (dk dt_X9_settleCircles 59 rfl) rfl ?_
  refine j_goto 25 (dk dt_X9_settleCircles 60 rfl) (by decide) ?_
  exact j_el (hl _ _ H hw (r32_w _)) (And.intro rfl (And.intro rfl (And.intro rfl (And.intro rfl trivial))))
def L_X9_settleCircles_58  (t0 : Nat) (x1 : Int) (x2 : Int) (x3 : Int) (x4 : Int) (z : Z) (P : (Int × Z) ⊕ ((Z)) → Prop) : Prop :=
  (if 5 ≤ x4 then P (.inr z) else (zK z t0 = 10 ∧ (∃ a_75, zO z t0 4 = some a_75 ∧ zK z a_75 = 16 ∧ (0 ≤ w32 (w32 (x3 * 5) + x4) ∧ w32 (w32 (x3 * 5) + x4) < zN z a_75 ∧ (0 ≤ w32 (w32 (x2 * 5) + x4) ∧ w32 (w32 (x2 * 5) + x4) < zN z a_75 ∧ (∀ z_88, z_88 = wG z a_75 (w32 (w32 (x3 * 5) + x4)) (lOr (zG z a_75 (w32 (w32 (x3 * 5) + x4))) (zG z a_75 (w32 (w32 (x2 * 5) + x4)))) → P (.inl (w32 (x4 + 1), z_88))))))))
theorem U_X9_settleCircles_58  {t0 : Nat} {x1 : Int} {x2 : Int} {x3 : Int} {x4 : Int} {z : Z} {P : (Int × Z) ⊕ ((Z)) → Prop} {post : Option Sv ⊕ String → Hp → Prop} (r_x1 : R32 x1) (r_x2 : R32 x2) (r_x3 : R32 x3) (r_x4 : R32 x4) (hw : Wz z)  (hl : ∀ (x4 : Int) (z : Z), P (.inl (x4, z)) → Wz z → R32 x4 → J mX9_settleCircles 4 0 0 post 58 [some (vr (some t0)), some (ii (x1)), some (ii (x2)), some (ii (x3)), some (ii (x4))] [] (cz z)) (he0 : ∀ (z : Z), P (.inr z) → Wz z → J mX9_settleCircles 4 0 0 post 95 [some (vr (some t0)), some (ii (x1)), some (ii (x2)), some (ii (x3)), none] [] (cz z)) (H : L_X9_settleCircles_58 t0 x1 x2 x3 x4 z P) : J mX9_settleCircles 4 0 0 post 58 [some (vr (some t0)), some (ii (x1)), some (ii (x2)), some (ii (x3)), some (ii (x4))] [] (cz z) := by
  unfold L_X9_settleCircles_58 at H
  refine j_iload (dk dt_X9_settleCircles 35 rfl) rfl ?_
  refine j_iconst (v := Int32.ofInt 5) (dk dt_X9_settleCircles 36 rfl) (by decide) ?_
  refine jz_icmp_ge 95 (dk dt_X9_settleCircles 37 rfl) (by decide) r_x4 (by decide) H (fun H => ?_) (fun H => ?_)
  · exact j_el (he0 _ H hw) (And.intro rfl (And.intro rfl (And.intro rfl (And.intro rfl trivial))))
  · refine j_aload_n (dk dt_X9_settleCircles 38 rfl) rfl ?_
    obtain ⟨k_65, H⟩ := H
    refine jz_getO (kz := 4) (dk dt_X9_settleCircles 39 rfl) fl_X9_28 rfl rfl rfl k_65 ?_
    refine j_iload_n (dk dt_X9_settleCircles 40 rfl) rfl ?_
    refine j_iconst (v := Int32.ofInt 5) (dk dt_X9_settleCircles 41 rfl) (by decide) ?_
    refine jz_imul (dk dt_X9_settleCircles 42 rfl) ?_
    refine j_iload (dk dt_X9_settleCircles 43 rfl) rfl ?_
    refine jz_iadd (dk dt_X9_settleCircles 44 rfl) ?_
    refine j_dup2 (dk dt_X9_settleCircles 45 rfl) rfl rfl ?_
    obtain ⟨a_75, e_75, k_75, H⟩ := H
    obtain ⟨p_75, q_75, H⟩ := H
    refine jz_lald (dk dt_X9_settleCircles 46 rfl) e_75 k_75 p_75 q_75 hw ?_
    refine j_aload_n (dk dt_X9_settleCircles 47 rfl) rfl ?_
    refine jz_getO (kz := 4) (dk dt_X9_settleCircles 48 rfl) fl_X9_28 rfl rfl rfl k_65 ?_
    refine j_iload_n (dk dt_X9_settleCircles 49 rfl) rfl ?_
    refine j_iconst (v := Int32.ofInt 5) (dk dt_X9_settleCircles 50 rfl) (by decide) ?_
    refine jz_imul (dk dt_X9_settleCircles 51 rfl) ?_
    refine j_iload (dk dt_X9_settleCircles 52 rfl) rfl ?_
    refine jz_iadd (dk dt_X9_settleCircles 53 rfl) ?_
    obtain ⟨p_86, q_86, H⟩ := H
    refine jz_lald (dk dt_X9_settleCircles 54 rfl) e_75 k_75 p_86 q_86 hw ?_
    refine jz_lor (dk dt_X9_settleCircles 55 rfl) ?_
    refine jz_last (dk dt_X9_settleCircles 56 rfl) e_75 k_75 p_75 q_75 hw (r64_t _) (fun w_88 => ?_)
    replace H := H _ rfl
    refine jz_iinc (dk dt_X9_settleCircles 57 rfl) rfl ?_
    refine j_goto 58 (dk dt_X9_settleCircles 58 rfl) (by decide) ?_
    exact j_el (hl _ _ H w_88 (r32_w _)) (And.intro rfl (And.intro rfl (And.intro rfl (And.intro rfl (And.intro rfl trivial)))))
def F_X9_settleCircles_58  (t0 : Nat) (x1 : Int) (x2 : Int) (x3 : Int) (x4 : Int) (z : Z) (P : (Int × Z) ⊕ ((Z)) → Prop) : Prop :=
  lp (S := Int × Z) (E := (Z)) (fun q P_ => L_X9_settleCircles_58 t0 x1 x2 x3 q.1 q.2 P_) (x4, z) (fun (z : Z) => F_X9_settleCircles_95 t0 x1 x2 x3 z P)
theorem T_X9_settleCircles_58  {t0 : Nat} {x1 : Int} {x2 : Int} {x3 : Int} {x4 : Int} {z : Z} {P : (Int × Z) ⊕ ((Z)) → Prop} {post : Option Sv ⊕ String → Hp → Prop} (r_x1 : R32 x1) (r_x2 : R32 x2) (r_x3 : R32 x3) (r_x4 : R32 x4) (hw : Wz z)  (hl : ∀ (x3 : Int) (z : Z), P (.inl (x3, z)) → Wz z → R32 x3 → J mX9_settleCircles 4 0 0 post 25 [some (vr (some t0)), some (ii (x1)), some (ii (x2)), some (ii (x3)), none] [] (cz z)) (he0 : ∀ (z : Z), P (.inr z) → Wz z → J mX9_settleCircles 4 0 0 post 101 [some (vr (some t0)), some (ii (x1)), some (ii (x2)), none, none] [] (cz z)) (H : F_X9_settleCircles_58 t0 x1 x2 x3 x4 z P) : J mX9_settleCircles 4 0 0 (post) 58 [some (vr (some t0)), some (ii (x1)), some (ii (x2)), some (ii (x3)), some (ii (x4))] [] (cz z) := by
  unfold F_X9_settleCircles_58 at H
  refine lp_J (G := fun q => Wz (q.2) → R32 (q.1) → J mX9_settleCircles 4 0 0 (post) 58 [some (vr (some t0)), some (ii (x1)), some (ii (x2)), some (ii (x3)), some (ii ((q.1)))] [] (cz (q.2))) (fun q P_ hl_ he_ Hb => ?_) (x4, z) H hw r_x4
  obtain ⟨x4, z⟩ := q
  intro hw r_x4
  refine U_X9_settleCircles_58 (P := P_) r_x1 r_x2 r_x3 r_x4 hw  (fun x4 z Hp hw r_x4 => hl_ (x4, z) Hp hw r_x4) ?_ Hb
  · intro z Hp hw
    have H := he_ _ Hp
    exact j_el (T_X9_settleCircles_95 r_x1 r_x2 r_x3 hw  hl he0 H) (And.intro rfl (And.intro rfl (And.intro rfl (And.intro rfl trivial))))
def L_X9_settleCircles_25  (t0 : Nat) (x1 : Int) (x2 : Int) (x3 : Int) (z : Z) (P : (Int × Z) ⊕ ((Z)) → Prop) : Prop :=
  (if x1 ≤ x3 then P (.inr z) else (zK z t0 = 10 ∧ F_X9_isOpen t0 x2 z (fun x_32 => (if x_32 = 0 then P (.inr z) else F_X9_isOpen t0 x3 z (fun x_40 => (if x_40 = 0 then F_X9_settleCircles_95 t0 x1 x2 x3 z P else F_X9_reaches t0 x3 x2 z (fun x_49 => (if x_49 = 0 then F_X9_settleCircles_95 t0 x1 x2 x3 z P else F_X9_settleCircles_58 t0 x1 x2 x3 0 z P))))))))
theorem U_X9_settleCircles_25  {t0 : Nat} {x1 : Int} {x2 : Int} {x3 : Int} {z : Z} {P : (Int × Z) ⊕ ((Z)) → Prop} {post : Option Sv ⊕ String → Hp → Prop} (r_x1 : R32 x1) (r_x2 : R32 x2) (r_x3 : R32 x3) (hw : Wz z)  (hl : ∀ (x3 : Int) (z : Z), P (.inl (x3, z)) → Wz z → R32 x3 → J mX9_settleCircles 4 0 0 post 25 [some (vr (some t0)), some (ii (x1)), some (ii (x2)), some (ii (x3)), none] [] (cz z)) (he0 : ∀ (z : Z), P (.inr z) → Wz z → J mX9_settleCircles 4 0 0 post 101 [some (vr (some t0)), some (ii (x1)), some (ii (x2)), none, none] [] (cz z)) (H : L_X9_settleCircles_25 t0 x1 x2 x3 z P) : J mX9_settleCircles 4 0 0 post 25 [some (vr (some t0)), some (ii (x1)), some (ii (x2)), some (ii (x3)), none] [] (cz z) := by
  unfold L_X9_settleCircles_25 at H
  refine j_iload_n (dk dt_X9_settleCircles 17 rfl) rfl ?_
  refine j_iload_n (dk dt_X9_settleCircles 18 rfl) rfl ?_
  refine jz_icmp_ge 101 (dk dt_X9_settleCircles 19 rfl) (by decide) r_x3 r_x1 H (fun H => ?_) (fun H => ?_)
  · exact j_el (he0 _ H hw) (And.intro rfl (And.intro rfl (And.intro rfl trivial)))
  · refine j_aload_n (dk dt_X9_settleCircles 20 rfl) rfl ?_
    refine j_iload_n (dk dt_X9_settleCircles 21 rfl) rfl ?_
    obtain ⟨k_32, H⟩ := H
    refine jz_callV1 (dk dt_X9_settleCircles 22 rfl) vl_X9_136 rfl (T_X9_isOpen r_x2 hw H) k_32 rfl (by decide) (Nat.zero_le _) (Nat.zero_le _) (Nat.le_of_ble_eq_true rfl) (fun v_32 h_32 P_32 => ?_)
    obtain ⟨x_32, rfl, r_32, rfl, H⟩ := P_32
    dsimp only [rs]
    refine jz_if_eq 101 (dk dt_X9_settleCircles 23 rfl) (by decide) r_32 H (fun H => ?_) (fun H => ?_)
    · exact j_el (he0 _ H hw) (And.intro rfl (And.intro rfl (And.intro rfl trivial)))
    · refine j_aload_n (dk dt_X9_settleCircles 24 rfl) rfl ?_
      refine j_iload_n (dk dt_X9_settleCircles 25 rfl) rfl ?_
      refine jz_callV1 (dk dt_X9_settleCircles 26 rfl) vl_X9_136 rfl (T_X9_isOpen r_x3 hw H) k_32 rfl (by decide) (Nat.zero_le _) (Nat.zero_le _) (Nat.le_of_ble_eq_true rfl) (fun v_40 h_40 P_40 => ?_)
      obtain ⟨x_40, rfl, r_40, rfl, H⟩ := P_40
      dsimp only [rs]
      refine jz_if_eq 95 (dk dt_X9_settleCircles 27 rfl) (by decide) r_40 H (fun H => ?_) (fun H => ?_)
      · exact j_el (T_X9_settleCircles_95 r_x1 r_x2 r_x3 hw  hl he0 H) (And.intro rfl (And.intro rfl (And.intro rfl (And.intro rfl trivial))))
      · refine j_aload_n (dk dt_X9_settleCircles 28 rfl) rfl ?_
        refine j_iload_n (dk dt_X9_settleCircles 29 rfl) rfl ?_
        refine j_iload_n (dk dt_X9_settleCircles 30 rfl) rfl ?_
        refine jz_callV2 (dk dt_X9_settleCircles 31 rfl) vl_X9_139 rfl (T_X9_reaches r_x3 r_x2 hw H) k_32 rfl (by decide) (Nat.zero_le _) (Nat.zero_le _) (Nat.le_of_ble_eq_true rfl) (fun v_49 h_49 P_49 => ?_)
        obtain ⟨x_49, rfl, r_49, rfl, H⟩ := P_49
        dsimp only [rs]
        refine jz_if_eq 95 (dk dt_X9_settleCircles 32 rfl) (by decide) r_49 H (fun H => ?_) (fun H => ?_)
        · exact j_el (T_X9_settleCircles_95 r_x1 r_x2 r_x3 hw  hl he0 H) (And.intro rfl (And.intro rfl (And.intro rfl (And.intro rfl trivial))))
        · refine j_iconst (v := Int32.ofInt 0) (dk dt_X9_settleCircles 33 rfl) (by decide) ?_
          refine j_istore (dk dt_X9_settleCircles 34 rfl) (by decide) ?_
          exact j_el (T_X9_settleCircles_58 r_x1 r_x2 r_x3 (by decide) hw  hl he0 H) (And.intro rfl (And.intro rfl (And.intro rfl (And.intro rfl (And.intro rfl trivial)))))
def F_X9_settleCircles_101  (t0 : Nat) (x1 : Int) (x2 : Int) (z : Z) (P : (Int × Z) ⊕ ((Z)) → Prop) : Prop :=
  P (.inl (w32 (x2 + 1), z))
theorem T_X9_settleCircles_101  {t0 : Nat} {x1 : Int} {x2 : Int} {z : Z} {P : (Int × Z) ⊕ ((Z)) → Prop} {post : Option Sv ⊕ String → Hp → Prop} (r_x1 : R32 x1) (r_x2 : R32 x2) (hw : Wz z)  (hl : ∀ (x2 : Int) (z : Z), P (.inl (x2, z)) → Wz z → R32 x2 → J mX9_settleCircles 4 0 0 post 18 [some (vr (some t0)), some (ii (x1)), some (ii (x2)), none, none] [] (cz z)) (he0 : ∀ (z : Z), P (.inr z) → Wz z → J mX9_settleCircles 4 0 0 post 107 [some (vr (some t0)), some (ii (x1)), none, none, none] [] (cz z)) (H : F_X9_settleCircles_101 t0 x1 x2 z P) : J mX9_settleCircles 4 0 0 (post) 101 [some (vr (some t0)), some (ii (x1)), some (ii (x2)), none, none] [] (cz z) := by
  unfold F_X9_settleCircles_101 at H
  refine jz_iinc (dk dt_X9_settleCircles 61 rfl) rfl ?_
  refine j_goto 18 (dk dt_X9_settleCircles 62 rfl) (by decide) ?_
  exact j_el (hl _ _ H hw (r32_w _)) (And.intro rfl (And.intro rfl (And.intro rfl trivial)))
def F_X9_settleCircles_25  (t0 : Nat) (x1 : Int) (x2 : Int) (x3 : Int) (z : Z) (P : (Int × Z) ⊕ ((Z)) → Prop) : Prop :=
  lp (S := Int × Z) (E := (Z)) (fun q P_ => L_X9_settleCircles_25 t0 x1 x2 q.1 q.2 P_) (x3, z) (fun (z : Z) => F_X9_settleCircles_101 t0 x1 x2 z P)
theorem T_X9_settleCircles_25  {t0 : Nat} {x1 : Int} {x2 : Int} {x3 : Int} {z : Z} {P : (Int × Z) ⊕ ((Z)) → Prop} {post : Option Sv ⊕ String → Hp → Prop} (r_x1 : R32 x1) (r_x2 : R32 x2) (r_x3 : R32 x3) (hw : Wz z)  (hl : ∀ (x2 : Int) (z : Z), P (.inl (x2, z)) → Wz z → R32 x2 → J mX9_settleCircles 4 0 0 post 18 [some (vr (some t0)), some (ii (x1)), some (ii (x2)), none, none] [] (cz z)) (he0 : ∀ (z : Z), P (.inr z) → Wz z → J mX9_settleCircles 4 0 0 post 107 [some (vr (some t0)), some (ii (x1)), none, none, none] [] (cz z)) (H : F_X9_settleCircles_25 t0 x1 x2 x3 z P) : J mX9_settleCircles 4 0 0 (post) 25 [some (vr (some t0)), some (ii (x1)), some (ii (x2)), some (ii (x3)), none] [] (cz z) := by
  unfold F_X9_settleCircles_25 at H
  refine lp_J (G := fun q => Wz (q.2) → R32 (q.1) → J mX9_settleCircles 4 0 0 (post) 25 [some (vr (some t0)), some (ii (x1)), some (ii (x2)), some (ii ((q.1))), none] [] (cz (q.2))) (fun q P_ hl_ he_ Hb => ?_) (x3, z) H hw r_x3
  obtain ⟨x3, z⟩ := q
  intro hw r_x3
  refine U_X9_settleCircles_25 (P := P_) r_x1 r_x2 r_x3 hw  (fun x3 z Hp hw r_x3 => hl_ (x3, z) Hp hw r_x3) ?_ Hb
  · intro z Hp hw
    have H := he_ _ Hp
    exact j_el (T_X9_settleCircles_101 r_x1 r_x2 hw  hl he0 H) (And.intro rfl (And.intro rfl (And.intro rfl trivial)))
def L_X9_settleCircles_18  (t0 : Nat) (x1 : Int) (x2 : Int) (z : Z) (P : (Int × Z) ⊕ ((Z)) → Prop) : Prop :=
  (if x1 ≤ x2 then P (.inr z) else F_X9_settleCircles_25 t0 x1 x2 0 z P)
theorem U_X9_settleCircles_18  {t0 : Nat} {x1 : Int} {x2 : Int} {z : Z} {P : (Int × Z) ⊕ ((Z)) → Prop} {post : Option Sv ⊕ String → Hp → Prop} (r_x1 : R32 x1) (r_x2 : R32 x2) (hw : Wz z)  (hl : ∀ (x2 : Int) (z : Z), P (.inl (x2, z)) → Wz z → R32 x2 → J mX9_settleCircles 4 0 0 post 18 [some (vr (some t0)), some (ii (x1)), some (ii (x2)), none, none] [] (cz z)) (he0 : ∀ (z : Z), P (.inr z) → Wz z → J mX9_settleCircles 4 0 0 post 107 [some (vr (some t0)), some (ii (x1)), none, none, none] [] (cz z)) (H : L_X9_settleCircles_18 t0 x1 x2 z P) : J mX9_settleCircles 4 0 0 post 18 [some (vr (some t0)), some (ii (x1)), some (ii (x2)), none, none] [] (cz z) := by
  unfold L_X9_settleCircles_18 at H
  refine j_iload_n (dk dt_X9_settleCircles 12 rfl) rfl ?_
  refine j_iload_n (dk dt_X9_settleCircles 13 rfl) rfl ?_
  refine jz_icmp_ge 107 (dk dt_X9_settleCircles 14 rfl) (by decide) r_x2 r_x1 H (fun H => ?_) (fun H => ?_)
  · exact j_el (he0 _ H hw) (And.intro rfl (And.intro rfl trivial))
  · refine j_iconst (v := Int32.ofInt 0) (dk dt_X9_settleCircles 15 rfl) (by decide) ?_
    refine j_istore_n (dk dt_X9_settleCircles 16 rfl) (by decide) ?_
    exact j_el (T_X9_settleCircles_25 r_x1 r_x2 (by decide) hw  hl he0 H) (And.intro rfl (And.intro rfl (And.intro rfl (And.intro rfl trivial))))
def F_X9_settleCircles_152  (t0 : Nat) (x1 : Int) (x2 : Int) (z : Z) (P : (Int × Z) ⊕ ((Z)) → Prop) : Prop :=
  P (.inl (w32 (x2 + 1), z))
theorem T_X9_settleCircles_152  {t0 : Nat} {x1 : Int} {x2 : Int} {z : Z} {P : (Int × Z) ⊕ ((Z)) → Prop} {post : Option Sv ⊕ String → Hp → Prop} (r_x1 : R32 x1) (r_x2 : R32 x2) (hw : Wz z)  (hl : ∀ (x2 : Int) (z : Z), P (.inl (x2, z)) → Wz z → R32 x2 → J mX9_settleCircles 4 0 0 post 109 [some (vr (some t0)), some (ii (x1)), some (ii (x2)), none, none] [] (cz z)) (he0 : ∀ (z : Z), P (.inr z) → Wz z → J mX9_settleCircles 4 0 0 post 158 [none, none, none, none, none] [] (cz z)) (H : F_X9_settleCircles_152 t0 x1 x2 z P) : J mX9_settleCircles 4 0 0 (post) 152 [some (vr (some t0)), some (ii (x1)), some (ii (x2)), none, none] [] (cz z) := by
  unfold F_X9_settleCircles_152 at H
  refine jz_iinc (dk dt_X9_settleCircles 88 rfl) rfl ?_
  refine j_goto 109 (dk dt_X9_settleCircles 89 rfl) (by decide) ?_
  exact j_el (hl _ _ H hw (r32_w _)) (And.intro rfl (And.intro rfl (And.intro rfl trivial)))
def L_X9_settleCircles_109  (t0 : Nat) (x1 : Int) (x2 : Int) (z : Z) (P : (Int × Z) ⊕ ((Z)) → Prop) : Prop :=
  (if x1 ≤ x2 then P (.inr z) else (zK z t0 = 10 ∧ F_X9_isOpen t0 x2 z (fun x_116 => (if x_116 = 0 then F_X9_settleCircles_152 t0 x1 x2 z P else F_X9_reaches t0 x2 x2 z (fun x_125 => (if x_125 = 0 then F_X9_settleCircles_152 t0 x1 x2 z P else (∃ a_135, zO z t0 8 = some a_135 ∧ zK z a_135 = 7 ∧ (∃ a_139, zO z a_135 3 = some a_139 ∧ zK z a_139 = 22 ∧ (0 ≤ x2 ∧ x2 < zN z a_139 ∧ (∃ a_144, zO z a_139 x2 = some a_144 ∧ zK z a_144 = 9 ∧ F_X8_set a_144 4 6 z (fun z_144 => (zK z_144 t0 = 10 ∧ F_X9_close t0 x2 z_144 (fun z_149 => F_X9_settleCircles_152 t0 x1 x2 z_149 P)))))))))))))
theorem U_X9_settleCircles_109  {t0 : Nat} {x1 : Int} {x2 : Int} {z : Z} {P : (Int × Z) ⊕ ((Z)) → Prop} {post : Option Sv ⊕ String → Hp → Prop} (r_x1 : R32 x1) (r_x2 : R32 x2) (hw : Wz z)  (hl : ∀ (x2 : Int) (z : Z), P (.inl (x2, z)) → Wz z → R32 x2 → J mX9_settleCircles 4 0 0 post 109 [some (vr (some t0)), some (ii (x1)), some (ii (x2)), none, none] [] (cz z)) (he0 : ∀ (z : Z), P (.inr z) → Wz z → J mX9_settleCircles 4 0 0 post 158 [none, none, none, none, none] [] (cz z)) (H : L_X9_settleCircles_109 t0 x1 x2 z P) : J mX9_settleCircles 4 0 0 post 109 [some (vr (some t0)), some (ii (x1)), some (ii (x2)), none, none] [] (cz z) := by
  unfold L_X9_settleCircles_109 at H
  refine j_iload_n (dk dt_X9_settleCircles 65 rfl) rfl ?_
  refine j_iload_n (dk dt_X9_settleCircles 66 rfl) rfl ?_
  refine jz_icmp_ge 158 (dk dt_X9_settleCircles 67 rfl) (by decide) r_x2 r_x1 H (fun H => ?_) (fun H => ?_)
  · exact j_el (he0 _ H hw) trivial
  · refine j_aload_n (dk dt_X9_settleCircles 68 rfl) rfl ?_
    refine j_iload_n (dk dt_X9_settleCircles 69 rfl) rfl ?_
    obtain ⟨k_116, H⟩ := H
    refine jz_callV1 (dk dt_X9_settleCircles 70 rfl) vl_X9_136 rfl (T_X9_isOpen r_x2 hw H) k_116 rfl (by decide) (Nat.zero_le _) (Nat.zero_le _) (Nat.le_of_ble_eq_true rfl) (fun v_116 h_116 P_116 => ?_)
    obtain ⟨x_116, rfl, r_116, rfl, H⟩ := P_116
    dsimp only [rs]
    refine jz_if_eq 152 (dk dt_X9_settleCircles 71 rfl) (by decide) r_116 H (fun H => ?_) (fun H => ?_)
    · exact j_el (T_X9_settleCircles_152 r_x1 r_x2 hw  hl he0 H) (And.intro rfl (And.intro rfl (And.intro rfl trivial)))
    · refine j_aload_n (dk dt_X9_settleCircles 72 rfl) rfl ?_
      refine j_iload_n (dk dt_X9_settleCircles 73 rfl) rfl ?_
      refine j_iload_n (dk dt_X9_settleCircles 74 rfl) rfl ?_
      refine jz_callV2 (dk dt_X9_settleCircles 75 rfl) vl_X9_139 rfl (T_X9_reaches r_x2 r_x2 hw H) k_116 rfl (by decide) (Nat.zero_le _) (Nat.zero_le _) (Nat.le_of_ble_eq_true rfl) (fun v_125 h_125 P_125 => ?_)
      obtain ⟨x_125, rfl, r_125, rfl, H⟩ := P_125
      dsimp only [rs]
      refine jz_if_eq 152 (dk dt_X9_settleCircles 76 rfl) (by decide) r_125 H (fun H => ?_) (fun H => ?_)
      · exact j_el (T_X9_settleCircles_152 r_x1 r_x2 hw  hl he0 H) (And.intro rfl (And.intro rfl (And.intro rfl trivial)))
      · refine j_aload_n (dk dt_X9_settleCircles 77 rfl) rfl ?_
        refine jz_getO (kz := 8) (dk dt_X9_settleCircles 78 rfl) fl_X9_45 rfl rfl rfl k_116 ?_
        obtain ⟨a_135, e_135, k_135, H⟩ := H
        refine jz_getO (kz := 3) (dk dt_X9_settleCircles 79 rfl) fl_X9_49 rfl rfl e_135 k_135 ?_
        refine j_iload_n (dk dt_X9_settleCircles 80 rfl) rfl ?_
        obtain ⟨a_139, e_139, k_139, H⟩ := H
        obtain ⟨p_139, q_139, H⟩ := H
        refine jz_aald (t := 8) (dk dt_X9_settleCircles 81 rfl) e_139 k_139 (by decide) (by decide) p_139 q_139 hw ?_
        refine j_iconst (v := Int32.ofInt 4) (dk dt_X9_settleCircles 82 rfl) (by decide) ?_
        refine j_ldc2 (v := Int64.ofInt (6)) (dk dt_X9_settleCircles 83 rfl) (by exact kl_X9_143) ?_
        obtain ⟨a_144, e_144, k_144, H⟩ := H
        refine jz_callV2 (dk dt_X9_settleCircles 84 rfl) vl_X9_145 e_144 (T_X8_set (by decide) (by decide) hw H) k_144 rfl (by decide) (Nat.zero_le _) (Nat.zero_le _) (Nat.le_of_ble_eq_true rfl) (fun v_144 h_144 P_144 => ?_)
        obtain ⟨z_144, rfl, rfl, w_144, H⟩ := P_144
        dsimp only [rs]
        refine j_aload_n (dk dt_X9_settleCircles 85 rfl) rfl ?_
        refine j_iload_n (dk dt_X9_settleCircles 86 rfl) rfl ?_
        obtain ⟨k_149, H⟩ := H
        refine jz_callV1 (dk dt_X9_settleCircles 87 rfl) vl_X9_149 rfl (T_X9_close r_x2 w_144 H) k_149 rfl (by decide) (Nat.zero_le _) (Nat.zero_le _) (Nat.le_of_ble_eq_true rfl) (fun v_149 h_149 P_149 => ?_)
        obtain ⟨z_149, rfl, rfl, w_149, H⟩ := P_149
        dsimp only [rs]
        exact j_el (T_X9_settleCircles_152 r_x1 r_x2 w_149  hl he0 H) (And.intro rfl (And.intro rfl (And.intro rfl trivial)))
def F_X9_settleCircles_109  (t0 : Nat) (x1 : Int) (x2 : Int) (z : Z) (P : Z → Prop) : Prop :=
  lp (S := Int × Z) (E := (Z)) (fun q P_ => L_X9_settleCircles_109 t0 x1 q.1 q.2 P_) (x2, z) (fun (z : Z) => P z)
theorem T_X9_settleCircles_109  {t0 : Nat} {x1 : Int} {x2 : Int} {z : Z} {P : Z → Prop} (r_x1 : R32 x1) (r_x2 : R32 x2) (hw : Wz z)   (H : F_X9_settleCircles_109 t0 x1 x2 z P) : J mX9_settleCircles 4 0 0 (nx (QZV P)) 109 [some (vr (some t0)), some (ii (x1)), some (ii (x2)), none, none] [] (cz z) := by
  unfold F_X9_settleCircles_109 at H
  refine lp_J (G := fun q => Wz (q.2) → R32 (q.1) → J mX9_settleCircles 4 0 0 (nx (QZV P)) 109 [some (vr (some t0)), some (ii (x1)), some (ii ((q.1))), none, none] [] (cz (q.2))) (fun q P_ hl_ he_ Hb => ?_) (x2, z) H hw r_x2
  obtain ⟨x2, z⟩ := q
  intro hw r_x2
  refine U_X9_settleCircles_109 (P := P_) r_x1 r_x2 hw  (fun x2 z Hp hw r_x2 => hl_ (x2, z) Hp hw r_x2) ?_ Hb
  · intro z Hp hw
    have H := he_ _ Hp
    exact j_return (dk dt_X9_settleCircles 90 rfl) rfl ⟨_, rfl, rfl, hw, H⟩
def F_X9_settleCircles_18  (t0 : Nat) (x1 : Int) (x2 : Int) (z : Z) (P : Z → Prop) : Prop :=
  lp (S := Int × Z) (E := (Z)) (fun q P_ => L_X9_settleCircles_18 t0 x1 q.1 q.2 P_) (x2, z) (fun (z : Z) => F_X9_settleCircles_109 t0 x1 0 z P)
theorem T_X9_settleCircles_18  {t0 : Nat} {x1 : Int} {x2 : Int} {z : Z} {P : Z → Prop} (r_x1 : R32 x1) (r_x2 : R32 x2) (hw : Wz z)   (H : F_X9_settleCircles_18 t0 x1 x2 z P) : J mX9_settleCircles 4 0 0 (nx (QZV P)) 18 [some (vr (some t0)), some (ii (x1)), some (ii (x2)), none, none] [] (cz z) := by
  unfold F_X9_settleCircles_18 at H
  refine lp_J (G := fun q => Wz (q.2) → R32 (q.1) → J mX9_settleCircles 4 0 0 (nx (QZV P)) 18 [some (vr (some t0)), some (ii (x1)), some (ii ((q.1))), none, none] [] (cz (q.2))) (fun q P_ hl_ he_ Hb => ?_) (x2, z) H hw r_x2
  obtain ⟨x2, z⟩ := q
  intro hw r_x2
  refine U_X9_settleCircles_18 (P := P_) r_x1 r_x2 hw  (fun x2 z Hp hw r_x2 => hl_ (x2, z) Hp hw r_x2) ?_ Hb
  · intro z Hp hw
    have H := he_ _ Hp
    refine j_iconst (v := Int32.ofInt 0) (dk dt_X9_settleCircles 63 rfl) (by decide) ?_
    refine j_istore_n (dk dt_X9_settleCircles 64 rfl) (by decide) ?_
    exact j_el (T_X9_settleCircles_109 r_x1 (by decide) hw   H) (And.intro rfl (And.intro rfl (And.intro rfl trivial)))
def F_X9_settleCircles  (t0 : Nat) (x1 : Int) (z : Z) (P : Z → Prop) : Prop :=
  (zK z t0 = 10 ∧ (∃ a_13s, zO z t0 3 = some a_13s ∧ zK z a_13s = 16 ∧ (∃ a_13d, zO z t0 4 = some a_13d ∧ zK z a_13d = 16 ∧ ((0 : Int) ≤ 0 ∧ (0 : Int) ≤ 0 ∧ 0 ≤ w32 (x1 * 5) ∧ 0 + (w32 (x1 * 5)) ≤ zN z a_13s ∧ 0 + (w32 (x1 * 5)) ≤ zN z a_13d ∧ (∀ z_13, z_13 = cpG2 z a_13s 0 a_13d 0 (w32 (x1 * 5)) → F_X9_settleCircles_18 t0 x1 0 z_13 P)))))
theorem T_X9_settleCircles  {t0 : Nat} {x1 : Int} {z : Z} {P : Z → Prop} (r_x1 : R32 x1) (hw : Wz z)  (H : F_X9_settleCircles t0 x1 z P) : Con mX9_settleCircles 4 0 0 [vr (some t0), ii (x1)] (cz z) (QZV P) := by
  refine con_of rfl (Nat.le_of_ble_eq_true rfl) (by decide) ?_
  show J mX9_settleCircles 4 0 0 _ 0 [some (vr (some t0)), some (ii (x1)), none, none, none] [] (cz z)
  unfold F_X9_settleCircles at H
  refine j_aload_n (dk dt_X9_settleCircles 0 rfl) rfl ?_
  obtain ⟨k_1, H⟩ := H
  refine jz_getO (kz := 3) (dk dt_X9_settleCircles 1 rfl) fl_X9_24 rfl rfl rfl k_1 ?_
  refine j_iconst (v := Int32.ofInt 0) (dk dt_X9_settleCircles 2 rfl) (by decide) ?_
  refine j_aload_n (dk dt_X9_settleCircles 3 rfl) rfl ?_
  refine jz_getO (kz := 4) (dk dt_X9_settleCircles 4 rfl) fl_X9_28 rfl rfl rfl k_1 ?_
  refine j_iconst (v := Int32.ofInt 0) (dk dt_X9_settleCircles 5 rfl) (by decide) ?_
  refine j_iload_n (dk dt_X9_settleCircles 6 rfl) rfl ?_
  refine j_iconst (v := Int32.ofInt 5) (dk dt_X9_settleCircles 7 rfl) (by decide) ?_
  refine jz_imul (dk dt_X9_settleCircles 8 rfl) ?_
  obtain ⟨a_13s, e_13s, k_13s, H⟩ := H
  obtain ⟨a_13d, e_13d, k_13d, H⟩ := H
  obtain ⟨p1_13, p2_13, p3_13, p4_13, p5_13, H⟩ := H
  refine jz_copyL (dk dt_X9_settleCircles 9 rfl) ac_X9_130 e_13s k_13s e_13d k_13d p1_13 p2_13 p3_13 p4_13 p5_13 (by decide) (Nat.le_of_ble_eq_true rfl) hw (fun w_13 => ?_)
  replace H := H _ rfl
  refine j_iconst (v := Int32.ofInt 0) (dk dt_X9_settleCircles 10 rfl) (by decide) ?_
  refine j_istore_n (dk dt_X9_settleCircles 11 rfl) (by decide) ?_
  exact j_el (T_X9_settleCircles_18 r_x1 (by decide) w_13   H) (And.intro rfl (And.intro rfl (And.intro rfl trivial)))
def F_X8_servesAs_20  (s0 : Int) (z : Z) (P : Int → Prop) : Prop :=
  (Z1 s0 ∧ P s0)
theorem T_X8_servesAs_20  {s0 : Int} {z : Z} {P : Int → Prop} (r_s0 : R32 s0) (hw : Wz z)   (H : F_X8_servesAs_20 s0 z P) : J mX8_servesAs 1 0 0 (nx (QPI (cz z) P)) 20 [none, none] [ii (s0)] (cz z) := by
  unfold F_X8_servesAs_20 at H
  obtain ⟨hz_, H⟩ := H
  exact j_ireturn (dk dt_X8_servesAs 10 rfl) rfl (nar_z hz_) ⟨_, rfl, r_s0, rfl, H⟩
def F_X8_servesAs_15  (z : Z) (P : Int → Prop) : Prop :=
  F_X8_servesAs_20 1 z P
theorem T_X8_servesAs_15  {z : Z} {P : Int → Prop}  (hw : Wz z)   (H : F_X8_servesAs_15 z P) : J mX8_servesAs 1 0 0 (nx (QPI (cz z) P)) 15 [none, none] [] (cz z) := by
  unfold F_X8_servesAs_15 at H
  refine j_iconst (v := Int32.ofInt 1) (dk dt_X8_servesAs 7 rfl) (by decide) ?_
  refine j_goto 20 (dk dt_X8_servesAs 8 rfl) (by decide) ?_
  exact j_el (T_X8_servesAs_20 (by decide) hw   H) trivial
def F_X8_servesAs  (t0 : Nat) (x1 : Int) (z : Z) (P : Int → Prop) : Prop :=
  (zK z t0 = 9 ∧ (if zI z t0 1 = x1 then F_X8_servesAs_15 z P else (if zI z t0 1 = 0 then F_X8_servesAs_15 z P else F_X8_servesAs_20 0 z P)))
theorem T_X8_servesAs  {t0 : Nat} {x1 : Int} {z : Z} {P : Int → Prop} (r_x1 : R32 x1) (hw : Wz z)  (H : F_X8_servesAs t0 x1 z P) : Con mX8_servesAs 1 0 0 [vr (some t0), ii (x1)] (cz z) (QPI (cz z) P) := by
  refine con_of rfl (Nat.le_of_ble_eq_true rfl) (by decide) ?_
  show J mX8_servesAs 1 0 0 _ 0 [some (vr (some t0)), some (ii (x1))] [] (cz z)
  unfold F_X8_servesAs at H
  refine j_aload_n (dk dt_X8_servesAs 0 rfl) rfl ?_
  obtain ⟨k_1, H⟩ := H
  refine jz_getI (kz := 1) (dk dt_X8_servesAs 1 rfl) fl_X8_21 rfl rfl rfl k_1 ?_
  refine j_iload_n (dk dt_X8_servesAs 2 rfl) rfl ?_
  refine jz_icmp_eq 15 (dk dt_X8_servesAs 3 rfl) (by decide) (hw.1 _ _) r_x1 H (fun H => ?_) (fun H => ?_)
  · exact j_el (T_X8_servesAs_15  hw   H) trivial
  · refine j_aload_n (dk dt_X8_servesAs 4 rfl) rfl ?_
    refine jz_getI (kz := 1) (dk dt_X8_servesAs 5 rfl) fl_X8_21 rfl rfl rfl k_1 ?_
    refine jz_if_ne 19 (dk dt_X8_servesAs 6 rfl) (by decide) (hw.1 _ _) H (fun H => ?_) (fun H => ?_)
    · exact j_el (T_X8_servesAs_15  hw   H) trivial
    · refine j_iconst (v := Int32.ofInt 0) (dk dt_X8_servesAs 9 rfl) (by decide) ?_
      exact j_el (T_X8_servesAs_20 (by decide) hw   H) trivial
def F_X9_change_106  (z : Z) (P : Z → Prop) : Prop :=
  P z
theorem T_X9_change_106  {z : Z} {P : Z → Prop}  (hw : Wz z)   (H : F_X9_change_106 z P) : J mX9_change 4 0 0 (nx (QZV P)) 106 [none, none, none] [] (cz z) := by
  unfold F_X9_change_106 at H
  exact j_return (dk dt_X9_change 53 rfl) rfl ⟨_, rfl, rfl, hw, H⟩
def F_X9_change_88  (s0 : Option Nat) (s1 : Int) (z : Z) (P : Z → Prop) : Prop :=
  (∃ a_88, s0 = some a_88 ∧ zK z a_88 = 9 ∧ F_X8_setTruth a_88 s1 z (fun z_88 => F_X9_change_106 z_88 P))
theorem T_X9_change_88  {s0 : Option Nat} {s1 : Int} {z : Z} {P : Z → Prop} (r_s1 : R32 s1) (hw : Wz z)   (H : F_X9_change_88 s0 s1 z P) : J mX9_change 4 0 0 (nx (QZV P)) 88 [none, none, none] [ii (s1), vr (s0)] (cz z) := by
  unfold F_X9_change_88 at H
  obtain ⟨a_88, e_88, k_88, H⟩ := H
  refine jz_callV1 (dk dt_X9_change 45 rfl) vl_X9_260 e_88 (T_X8_setTruth r_s1 hw H) k_88 rfl (by decide) (Nat.zero_le _) (Nat.zero_le _) (Nat.le_of_ble_eq_true rfl) (fun v_88 h_88 P_88 => ?_)
  obtain ⟨z_88, rfl, rfl, w_88, H⟩ := P_88
  dsimp only [rs]
  refine j_goto 106 (dk dt_X9_change 46 rfl) (by decide) ?_
  exact j_el (T_X9_change_106  w_88   H) trivial
def F_X9_change_50  (x1 : Int) (x2 : Option Nat) (s0 : Option Nat) (s1 : Int) (z : Z) (P : Z → Prop) : Prop :=
  (∃ a_50, s0 = some a_50 ∧ zK z a_50 = 9 ∧ F_X8_servesAs a_50 s1 z (fun x_50 => (if x_50 = 0 then (∃ a_61, x2 = some a_61 ∧ zK z a_61 = 9 ∧ F_X8_set a_61 4 3 z (fun z_61 => F_X9_change_106 z_61 P)) else (if x1 = 25 then (∃ a_75, x2 = some a_75 ∧ zK z a_75 = 9 ∧ (if zG z a_75 2 = 0 then F_X9_change_88 x2 1 z P else F_X9_change_88 x2 0 z P)) else (∃ a_97, x2 = some a_97 ∧ zK z a_97 = 9 ∧ F_X8_set a_97 1 (if 0 ≤ zG z a_97 2 then zG z a_97 2 else w64 (0 - (zG z a_97 2))) z (fun z_103 => F_X9_change_106 z_103 P))))))
theorem T_X9_change_50  {x1 : Int} {x2 : Option Nat} {s0 : Option Nat} {s1 : Int} {z : Z} {P : Z → Prop} (r_x1 : R32 x1) (r_s1 : R32 s1) (hw : Wz z)   (H : F_X9_change_50 x1 x2 s0 s1 z P) : J mX9_change 4 0 0 (nx (QZV P)) 50 [none, some (ii (x1)), some (vr (x2))] [ii (s1), vr (s0)] (cz z) := by
  unfold F_X9_change_50 at H
  obtain ⟨a_50, e_50, k_50, H⟩ := H
  refine jz_callV1 (dk dt_X9_change 26 rfl) vl_X9_237 e_50 (T_X8_servesAs r_s1 hw H) k_50 rfl (by decide) (Nat.zero_le _) (Nat.zero_le _) (Nat.le_of_ble_eq_true rfl) (fun v_50 h_50 P_50 => ?_)
  obtain ⟨x_50, rfl, r_50, rfl, H⟩ := P_50
  dsimp only [rs]
  refine jz_if_ne 67 (dk dt_X9_change 27 rfl) (by decide) r_50 H (fun H => ?_) (fun H => ?_)
  · refine j_aload_n (dk dt_X9_change 28 rfl) rfl ?_
    refine j_iconst (v := Int32.ofInt 4) (dk dt_X9_change 29 rfl) (by decide) ?_
    refine j_ldc2 (v := Int64.ofInt (3)) (dk dt_X9_change 30 rfl) (by exact kl_X9_240) ?_
    obtain ⟨a_61, e_61, k_61, H⟩ := H
    refine jz_callV2 (dk dt_X9_change 31 rfl) vl_X9_145 e_61 (T_X8_set (by decide) (by decide) hw H) k_61 rfl (by decide) (Nat.zero_le _) (Nat.zero_le _) (Nat.le_of_ble_eq_true rfl) (fun v_61 h_61 P_61 => ?_)
    obtain ⟨z_61, rfl, rfl, w_61, H⟩ := P_61
    dsimp only [rs]
    refine j_goto 106 (dk dt_X9_change 32 rfl) (by decide) ?_
    exact j_el (T_X9_change_106  w_61   H) trivial
  · refine j_iload_n (dk dt_X9_change 33 rfl) rfl ?_
    refine j_bipush (v := Int32.ofInt 25) (dk dt_X9_change 34 rfl) (by decide) ?_
    refine jz_icmp_ne 94 (dk dt_X9_change 35 rfl) (by decide) r_x1 (by decide) H (fun H => ?_) (fun H => ?_)
    · refine j_aload_n (dk dt_X9_change 36 rfl) rfl ?_
      refine j_aload_n (dk dt_X9_change 37 rfl) rfl ?_
      obtain ⟨a_75, e_75, k_75, H⟩ := H
      refine jz_getG (kz := 2) (dk dt_X9_change 38 rfl) fl_X9_230 rfl rfl e_75 k_75 ?_
      refine j_lconst (v := Int64.ofInt 0) (dk dt_X9_change 39 rfl) (by decide) ?_
      refine jz_lcmp (dk dt_X9_change 40 rfl) (hw.2.1 _ _) (by decide) ?_
      refine jz_lif_ne 87 (dk dt_X9_change 41 rfl) (by decide) H (fun H => ?_) (fun H => ?_)
      · refine j_iconst (v := Int32.ofInt 1) (dk dt_X9_change 42 rfl) (by decide) ?_
        refine j_goto 88 (dk dt_X9_change 43 rfl) (by decide) ?_
        exact j_el (T_X9_change_88 (by decide) hw   H) trivial
      · refine j_iconst (v := Int32.ofInt 0) (dk dt_X9_change 44 rfl) (by decide) ?_
        exact j_el (T_X9_change_88 (by decide) hw   H) trivial
    · refine j_aload_n (dk dt_X9_change 47 rfl) rfl ?_
      refine j_iconst (v := Int32.ofInt 1) (dk dt_X9_change 48 rfl) (by decide) ?_
      refine j_aload_n (dk dt_X9_change 49 rfl) rfl ?_
      obtain ⟨a_97, e_97, k_97, H⟩ := H
      refine jz_getG (kz := 2) (dk dt_X9_change 50 rfl) fl_X9_230 rfl rfl e_97 k_97 ?_
      refine jz_lmabs (dk dt_X9_change 51 rfl) sl_X9_278 (by decide) (Nat.le_of_ble_eq_true rfl) (hw.2.1 _ _) ?_
      refine jz_callV2 (dk dt_X9_change 52 rfl) vl_X9_145 e_97 (T_X8_set (by decide) (r64_if (hw.2.1 _ _) (r64_w _)) hw H) k_97 rfl (by decide) (Nat.zero_le _) (Nat.zero_le _) (Nat.le_of_ble_eq_true rfl) (fun v_103 h_103 P_103 => ?_)
      obtain ⟨z_103, rfl, rfl, w_103, H⟩ := P_103
      dsimp only [rs]
      exact j_el (T_X9_change_106  w_103   H) trivial
def F_X9_change  (t0 : Nat) (x1 : Int) (x2 : Option Nat) (z : Z) (P : Z → Prop) : Prop :=
  (∃ a_1, x2 = some a_1 ∧ zK z a_1 = 9 ∧ (if zI z a_1 1 = 4 then F_X8_set a_1 4 (zG z a_1 2) z (fun z_14 => F_X9_change_106 z_14 P) else (if x1 = 27 then F_X8_set a_1 1 (zG z a_1 2) z (fun z_32 => F_X9_change_106 z_32 P) else (if x1 = 25 then F_X9_change_50 x1 x2 x2 3 z P else F_X9_change_50 x1 x2 x2 1 z P))))
theorem T_X9_change  {t0 : Nat} {x1 : Int} {x2 : Option Nat} {z : Z} {P : Z → Prop} (r_x1 : R32 x1) (hw : Wz z)  (H : F_X9_change t0 x1 x2 z P) : Con mX9_change 4 0 0 [vr (some t0), ii (x1), vr (x2)] (cz z) (QZV P) := by
  refine con_of rfl (Nat.le_of_ble_eq_true rfl) (by decide) ?_
  show J mX9_change 4 0 0 _ 0 [some (vr (some t0)), some (ii (x1)), some (vr (x2))] [] (cz z)
  unfold F_X9_change at H
  refine j_aload_n (dk dt_X9_change 0 rfl) rfl ?_
  obtain ⟨a_1, e_1, k_1, H⟩ := H
  refine jz_getI (kz := 1) (dk dt_X9_change 1 rfl) fl_X9_192 rfl rfl e_1 k_1 ?_
  refine j_iconst (v := Int32.ofInt 4) (dk dt_X9_change 2 rfl) (by decide) ?_
  refine jz_icmp_ne 20 (dk dt_X9_change 3 rfl) (by decide) (hw.1 _ _) (by decide) H (fun H => ?_) (fun H => ?_)
  · refine j_aload_n (dk dt_X9_change 4 rfl) rfl ?_
    refine j_iconst (v := Int32.ofInt 4) (dk dt_X9_change 5 rfl) (by decide) ?_
    refine j_aload_n (dk dt_X9_change 6 rfl) rfl ?_
    refine jz_getG (kz := 2) (dk dt_X9_change 7 rfl) fl_X9_230 rfl rfl e_1 k_1 ?_
    refine jz_callV2 (dk dt_X9_change 8 rfl) vl_X9_145 e_1 (T_X8_set (by decide) (hw.2.1 _ _) hw H) k_1 rfl (by decide) (Nat.zero_le _) (Nat.zero_le _) (Nat.le_of_ble_eq_true rfl) (fun v_14 h_14 P_14 => ?_)
    obtain ⟨z_14, rfl, rfl, w_14, H⟩ := P_14
    dsimp only [rs]
    refine j_goto 106 (dk dt_X9_change 9 rfl) (by decide) ?_
    exact j_el (T_X9_change_106  w_14   H) trivial
  · refine j_iload_n (dk dt_X9_change 10 rfl) rfl ?_
    refine j_bipush (v := Int32.ofInt 27) (dk dt_X9_change 11 rfl) (by decide) ?_
    refine jz_icmp_ne 38 (dk dt_X9_change 12 rfl) (by decide) r_x1 (by decide) H (fun H => ?_) (fun H => ?_)
    · refine j_aload_n (dk dt_X9_change 13 rfl) rfl ?_
      refine j_iconst (v := Int32.ofInt 1) (dk dt_X9_change 14 rfl) (by decide) ?_
      refine j_aload_n (dk dt_X9_change 15 rfl) rfl ?_
      refine jz_getG (kz := 2) (dk dt_X9_change 16 rfl) fl_X9_230 rfl rfl e_1 k_1 ?_
      refine jz_callV2 (dk dt_X9_change 17 rfl) vl_X9_145 e_1 (T_X8_set (by decide) (hw.2.1 _ _) hw H) k_1 rfl (by decide) (Nat.zero_le _) (Nat.zero_le _) (Nat.le_of_ble_eq_true rfl) (fun v_32 h_32 P_32 => ?_)
      obtain ⟨z_32, rfl, rfl, w_32, H⟩ := P_32
      dsimp only [rs]
      refine j_goto 106 (dk dt_X9_change 18 rfl) (by decide) ?_
      exact j_el (T_X9_change_106  w_32   H) trivial
    · refine j_aload_n (dk dt_X9_change 19 rfl) rfl ?_
      refine j_iload_n (dk dt_X9_change 20 rfl) rfl ?_
      refine j_bipush (v := Int32.ofInt 25) (dk dt_X9_change 21 rfl) (by decide) ?_
      refine jz_icmp_ne 49 (dk dt_X9_change 22 rfl) (by decide) r_x1 (by decide) H (fun H => ?_) (fun H => ?_)
      · refine j_iconst (v := Int32.ofInt 3) (dk dt_X9_change 23 rfl) (by decide) ?_
        refine j_goto 50 (dk dt_X9_change 24 rfl) (by decide) ?_
        exact j_el (T_X9_change_50 r_x1 (by decide) hw   H) (And.intro rfl (And.intro rfl trivial))
      · refine j_iconst (v := Int32.ofInt 1) (dk dt_X9_change 25 rfl) (by decide) ?_
        exact j_el (T_X9_change_50 r_x1 (by decide) hw   H) (And.intro rfl (And.intro rfl trivial))
def F_X9_cut_37  (s0 : Option Nat) (s1 : Int) (s2 : Int) (z : Z) (P : Z → Prop) : Prop :=
  (∃ a_37, s0 = some a_37 ∧ zK z a_37 = 9 ∧ F_X8_set a_37 s1 s2 z (fun z_37 => P z_37))
theorem T_X9_cut_37  {s0 : Option Nat} {s1 : Int} {s2 : Int} {z : Z} {P : Z → Prop} (r_s1 : R32 s1) (r_s2 : R64 s2) (hw : Wz z)   (H : F_X9_cut_37 s0 s1 s2 z P) : J mX9_cut 4 0 0 (nx (QZV P)) 37 [none, none, none, none, none, none, none, none] [ll (s2), ii (s1), vr (s0)] (cz z) := by
  unfold F_X9_cut_37 at H
  obtain ⟨a_37, e_37, k_37, H⟩ := H
  refine jz_callV2 (dk dt_X9_cut 19 rfl) vl_X9_145 e_37 (T_X8_set r_s1 r_s2 hw H) k_37 rfl (by decide) (Nat.zero_le _) (Nat.zero_le _) (Nat.le_of_ble_eq_true rfl) (fun v_37 h_37 P_37 => ?_)
  obtain ⟨z_37, rfl, rfl, w_37, H⟩ := P_37
  dsimp only [rs]
  exact j_return (dk dt_X9_cut 20 rfl) rfl ⟨_, rfl, rfl, w_37, H⟩
def F_X9_cut_16  (x2 : Option Nat) (x3 : Option Nat) (z : Z) (P : Z → Prop) : Prop :=
  (∃ a_19, x2 = some a_19 ∧ zK z a_19 = 9 ∧ (if zI z a_19 1 = 4 then F_X9_cut_37 x2 4 (zG z a_19 2) z P else (∃ a_34, x3 = some a_34 ∧ zK z a_34 = 9 ∧ F_X9_cut_37 x2 4 (zG z a_34 2) z P)))
theorem T_X9_cut_16  {x2 : Option Nat} {x3 : Option Nat} {z : Z} {P : Z → Prop}  (hw : Wz z)   (H : F_X9_cut_16 x2 x3 z P) : J mX9_cut 4 0 0 (nx (QZV P)) 16 [none, none, some (vr (x2)), some (vr (x3)), none, none, none, none] [] (cz z) := by
  unfold F_X9_cut_16 at H
  refine j_aload_n (dk dt_X9_cut 8 rfl) rfl ?_
  refine j_iconst (v := Int32.ofInt 4) (dk dt_X9_cut 9 rfl) (by decide) ?_
  refine j_aload_n (dk dt_X9_cut 10 rfl) rfl ?_
  obtain ⟨a_19, e_19, k_19, H⟩ := H
  refine jz_getI (kz := 1) (dk dt_X9_cut 11 rfl) fl_X9_192 rfl rfl e_19 k_19 ?_
  refine j_iconst (v := Int32.ofInt 4) (dk dt_X9_cut 12 rfl) (by decide) ?_
  refine jz_icmp_ne 33 (dk dt_X9_cut 13 rfl) (by decide) (hw.1 _ _) (by decide) H (fun H => ?_) (fun H => ?_)
  · refine j_aload_n (dk dt_X9_cut 14 rfl) rfl ?_
    refine jz_getG (kz := 2) (dk dt_X9_cut 15 rfl) fl_X9_230 rfl rfl e_19 k_19 ?_
    refine j_goto 37 (dk dt_X9_cut 16 rfl) (by decide) ?_
    exact j_el (T_X9_cut_37 (by decide) (hw.2.1 _ _) hw   H) trivial
  · refine j_aload_n (dk dt_X9_cut 17 rfl) rfl ?_
    obtain ⟨a_34, e_34, k_34, H⟩ := H
    refine jz_getG (kz := 2) (dk dt_X9_cut 18 rfl) fl_X9_230 rfl rfl e_34 k_34 ?_
    exact j_el (T_X9_cut_37 (by decide) (hw.2.1 _ _) hw   H) trivial
def F_X9_cut_58  (x2 : Option Nat) (z : Z) (P : Z → Prop) : Prop :=
  (∃ a_63, x2 = some a_63 ∧ zK z a_63 = 9 ∧ F_X8_set a_63 4 3 z (fun z_63 => P z_63))
theorem T_X9_cut_58  {x2 : Option Nat} {z : Z} {P : Z → Prop}  (hw : Wz z)   (H : F_X9_cut_58 x2 z P) : J mX9_cut 4 0 0 (nx (QZV P)) 58 [none, none, some (vr (x2)), none, none, none, none, none] [] (cz z) := by
  unfold F_X9_cut_58 at H
  refine j_aload_n (dk dt_X9_cut 30 rfl) rfl ?_
  refine j_iconst (v := Int32.ofInt 4) (dk dt_X9_cut 31 rfl) (by decide) ?_
  refine j_ldc2 (v := Int64.ofInt (3)) (dk dt_X9_cut 32 rfl) (by exact kl_X9_240) ?_
  obtain ⟨a_63, e_63, k_63, H⟩ := H
  refine jz_callV2 (dk dt_X9_cut 33 rfl) vl_X9_145 e_63 (T_X8_set (by decide) (by decide) hw H) k_63 rfl (by decide) (Nat.zero_le _) (Nat.zero_le _) (Nat.le_of_ble_eq_true rfl) (fun v_63 h_63 P_63 => ?_)
  obtain ⟨z_63, rfl, rfl, w_63, H⟩ := P_63
  dsimp only [rs]
  exact j_return (dk dt_X9_cut 34 rfl) rfl ⟨_, rfl, rfl, w_63, H⟩
def L_X9_cut_107  (x2 : Option Nat) (x5 : Int) (x6 : Int) (x7 : Int) (z : Z) (P : (Int × Z) ⊕ ((Z)) → Prop) : Prop :=
  (if x5 ≤ x7 then P (.inr z) else (∃ a_115, x2 = some a_115 ∧ zK z a_115 = 9 ∧ (∃ a_129, zO z a_115 0 = some a_129 ∧ zK z a_129 = 14 ∧ (0 ≤ w32 (x6 + x7) ∧ w32 (x6 + x7) < zN z a_129 ∧ (0 ≤ x7 ∧ x7 < zN z a_129 ∧ (∀ z_130, z_130 = wI z a_129 x7 (zI z a_129 (w32 (x6 + x7))) → P (.inl (w32 (x7 + 1), z_130))))))))
theorem U_X9_cut_107  {x2 : Option Nat} {x5 : Int} {x6 : Int} {x7 : Int} {z : Z} {P : (Int × Z) ⊕ ((Z)) → Prop} {post : Option Sv ⊕ String → Hp → Prop} (r_x5 : R32 x5) (r_x6 : R32 x6) (r_x7 : R32 x7) (hw : Wz z)  (hl : ∀ (x7 : Int) (z : Z), P (.inl (x7, z)) → Wz z → R32 x7 → J mX9_cut 4 0 0 post 107 [none, none, some (vr (x2)), none, none, some (ii (x5)), some (ii (x6)), some (ii (x7))] [] (cz z)) (he0 : ∀ (z : Z), P (.inr z) → Wz z → J mX9_cut 4 0 0 post 137 [none, none, some (vr (x2)), none, none, some (ii (x5)), none, none] [] (cz z)) (H : L_X9_cut_107 x2 x5 x6 x7 z P) : J mX9_cut 4 0 0 post 107 [none, none, some (vr (x2)), none, none, some (ii (x5)), some (ii (x6)), some (ii (x7))] [] (cz z) := by
  unfold L_X9_cut_107 at H
  refine j_iload (dk dt_X9_cut 57 rfl) rfl ?_
  refine j_iload (dk dt_X9_cut 58 rfl) rfl ?_
  refine jz_icmp_ge 137 (dk dt_X9_cut 59 rfl) (by decide) r_x7 r_x5 H (fun H => ?_) (fun H => ?_)
  · exact j_el (he0 _ H hw) (And.intro rfl (And.intro rfl trivial))
  · refine j_aload_n (dk dt_X9_cut 60 rfl) rfl ?_
    obtain ⟨a_115, e_115, k_115, H⟩ := H
    refine jz_getO (kz := 0) (dk dt_X9_cut 61 rfl) fl_X9_270 rfl rfl e_115 k_115 ?_
    refine j_iload (dk dt_X9_cut 62 rfl) rfl ?_
    refine j_aload_n (dk dt_X9_cut 63 rfl) rfl ?_
    refine jz_getO (kz := 0) (dk dt_X9_cut 64 rfl) fl_X9_270 rfl rfl e_115 k_115 ?_
    refine j_iload (dk dt_X9_cut 65 rfl) rfl ?_
    refine j_iload (dk dt_X9_cut 66 rfl) rfl ?_
    refine jz_iadd (dk dt_X9_cut 67 rfl) ?_
    obtain ⟨a_129, e_129, k_129, H⟩ := H
    obtain ⟨p_129, q_129, H⟩ := H
    refine jz_bald (dk dt_X9_cut 68 rfl) e_129 k_129 p_129 q_129 hw ?_
    obtain ⟨p_130, q_130, H⟩ := H
    refine jz_bast (dk dt_X9_cut 69 rfl) e_129 k_129 p_130 q_130 hw (hw.2.2.1 _ _ k_129) (fun w_130 => ?_)
    replace H := H _ rfl
    refine jz_iinc (dk dt_X9_cut 70 rfl) rfl ?_
    refine j_goto 107 (dk dt_X9_cut 71 rfl) (by decide) ?_
    exact j_el (hl _ _ H w_130 (r32_w _)) (And.intro rfl (And.intro rfl (And.intro rfl (And.intro rfl trivial))))
def F_X9_cut_107  (x2 : Option Nat) (x5 : Int) (x6 : Int) (x7 : Int) (z : Z) (P : Z → Prop) : Prop :=
  lp (S := Int × Z) (E := (Z)) (fun q P_ => L_X9_cut_107 x2 x5 x6 q.1 q.2 P_) (x7, z) (fun (z : Z) => (∃ a_142, x2 = some a_142 ∧ zK z a_142 = 9 ∧ F_X8_set a_142 2 x5 z (fun z_142 => P z_142)))
theorem T_X9_cut_107  {x2 : Option Nat} {x5 : Int} {x6 : Int} {x7 : Int} {z : Z} {P : Z → Prop} (r_x5 : R32 x5) (r_x6 : R32 x6) (r_x7 : R32 x7) (hw : Wz z)   (H : F_X9_cut_107 x2 x5 x6 x7 z P) : J mX9_cut 4 0 0 (nx (QZV P)) 107 [none, none, some (vr (x2)), none, none, some (ii (x5)), some (ii (x6)), some (ii (x7))] [] (cz z) := by
  unfold F_X9_cut_107 at H
  refine lp_J (G := fun q => Wz (q.2) → R32 (q.1) → J mX9_cut 4 0 0 (nx (QZV P)) 107 [none, none, some (vr (x2)), none, none, some (ii (x5)), some (ii (x6)), some (ii ((q.1)))] [] (cz (q.2))) (fun q P_ hl_ he_ Hb => ?_) (x7, z) H hw r_x7
  obtain ⟨x7, z⟩ := q
  intro hw r_x7
  refine U_X9_cut_107 (P := P_) r_x5 r_x6 r_x7 hw  (fun x7 z Hp hw r_x7 => hl_ (x7, z) Hp hw r_x7) ?_ Hb
  · intro z Hp hw
    have H := he_ _ Hp
    refine j_aload_n (dk dt_X9_cut 72 rfl) rfl ?_
    refine j_iconst (v := Int32.ofInt 2) (dk dt_X9_cut 73 rfl) (by decide) ?_
    refine j_iload (dk dt_X9_cut 74 rfl) rfl ?_
    refine jz_i2l (dk dt_X9_cut 75 rfl) r_x5 ?_
    obtain ⟨a_142, e_142, k_142, H⟩ := H
    refine jz_callV2 (dk dt_X9_cut 76 rfl) vl_X9_145 e_142 (T_X8_set (by decide) (r64_3 r_x5) hw H) k_142 rfl (by decide) (Nat.zero_le _) (Nat.zero_le _) (Nat.le_of_ble_eq_true rfl) (fun v_142 h_142 P_142 => ?_)
    obtain ⟨z_142, rfl, rfl, w_142, H⟩ := P_142
    dsimp only [rs]
    exact j_return (dk dt_X9_cut 77 rfl) rfl ⟨_, rfl, rfl, w_142, H⟩
def F_X9_cut_102  (x2 : Option Nat) (x5 : Int) (s0 : Int) (z : Z) (P : Z → Prop) : Prop :=
  F_X9_cut_107 x2 x5 s0 0 z P
theorem T_X9_cut_102  {x2 : Option Nat} {x5 : Int} {s0 : Int} {z : Z} {P : Z → Prop} (r_x5 : R32 x5) (r_s0 : R32 s0) (hw : Wz z)   (H : F_X9_cut_102 x2 x5 s0 z P) : J mX9_cut 4 0 0 (nx (QZV P)) 102 [none, none, some (vr (x2)), none, none, some (ii (x5)), none, none] [ii (s0)] (cz z) := by
  unfold F_X9_cut_102 at H
  refine j_istore (dk dt_X9_cut 54 rfl) (by decide) ?_
  refine j_iconst (v := Int32.ofInt 0) (dk dt_X9_cut 55 rfl) (by decide) ?_
  refine j_istore (dk dt_X9_cut 56 rfl) (by decide) ?_
  exact j_el (T_X9_cut_107 r_x5 r_s0 (by decide) hw   H) (And.intro rfl (And.intro rfl (And.intro rfl (And.intro rfl trivial))))
def F_X9_cut  (t0 : Nat) (x1 : Int) (x2 : Option Nat) (x3 : Option Nat) (z : Z) (P : Z → Prop) : Prop :=
  (∃ a_1, x2 = some a_1 ∧ zK z a_1 = 9 ∧ (if zI z a_1 1 = 4 then F_X9_cut_16 x2 x3 z P else (∃ a_9, x3 = some a_9 ∧ zK z a_9 = 9 ∧ (if zI z a_9 1 = 4 then F_X9_cut_16 x2 x3 z P else F_X8_servesAs a_9 1 z (fun x_43 => (if x_43 = 0 then F_X9_cut_58 x2 z P else (if 0 ≤ zG z a_9 2 then (if x1 = 31 then F_X9_cut_102 x2 (w32 (min (zG z a_9 2) (w32 (zG z a_1 2)))) 0 z P else F_X9_cut_102 x2 (w32 (min (zG z a_9 2) (w32 (zG z a_1 2)))) (w32 ((w32 (zG z a_1 2)) - (w32 (min (zG z a_9 2) (w32 (zG z a_1 2)))))) z P) else F_X9_cut_58 x2 z P)))))))
theorem T_X9_cut  {t0 : Nat} {x1 : Int} {x2 : Option Nat} {x3 : Option Nat} {z : Z} {P : Z → Prop} (r_x1 : R32 x1) (hw : Wz z)  (H : F_X9_cut t0 x1 x2 x3 z P) : Con mX9_cut 4 0 0 [vr (some t0), ii (x1), vr (x2), vr (x3)] (cz z) (QZV P) := by
  refine con_of rfl (Nat.le_of_ble_eq_true rfl) (by decide) ?_
  show J mX9_cut 4 0 0 _ 0 [some (vr (some t0)), some (ii (x1)), some (vr (x2)), some (vr (x3)), none, none, none, none] [] (cz z)
  unfold F_X9_cut at H
  refine j_aload_n (dk dt_X9_cut 0 rfl) rfl ?_
  obtain ⟨a_1, e_1, k_1, H⟩ := H
  refine jz_getI (kz := 1) (dk dt_X9_cut 1 rfl) fl_X9_192 rfl rfl e_1 k_1 ?_
  refine j_iconst (v := Int32.ofInt 4) (dk dt_X9_cut 2 rfl) (by decide) ?_
  refine jz_icmp_eq 16 (dk dt_X9_cut 3 rfl) (by decide) (hw.1 _ _) (by decide) H (fun H => ?_) (fun H => ?_)
  · exact j_el (T_X9_cut_16  hw   H) (And.intro rfl (And.intro rfl trivial))
  · refine j_aload_n (dk dt_X9_cut 4 rfl) rfl ?_
    obtain ⟨a_9, e_9, k_9, H⟩ := H
    refine jz_getI (kz := 1) (dk dt_X9_cut 5 rfl) fl_X9_192 rfl rfl e_9 k_9 ?_
    refine j_iconst (v := Int32.ofInt 4) (dk dt_X9_cut 6 rfl) (by decide) ?_
    refine jz_icmp_ne 41 (dk dt_X9_cut 7 rfl) (by decide) (hw.1 _ _) (by decide) H (fun H => ?_) (fun H => ?_)
    · exact j_el (T_X9_cut_16  hw   H) (And.intro rfl (And.intro rfl trivial))
    · refine j_aload_n (dk dt_X9_cut 21 rfl) rfl ?_
      refine j_iconst (v := Int32.ofInt 1) (dk dt_X9_cut 22 rfl) (by decide) ?_
      refine jz_callV1 (dk dt_X9_cut 23 rfl) vl_X9_237 e_9 (T_X8_servesAs (by decide) hw H) k_9 rfl (by decide) (Nat.zero_le _) (Nat.zero_le _) (Nat.le_of_ble_eq_true rfl) (fun v_43 h_43 P_43 => ?_)
      obtain ⟨x_43, rfl, r_43, rfl, H⟩ := P_43
      dsimp only [rs]
      refine jz_if_eq 58 (dk dt_X9_cut 24 rfl) (by decide) r_43 H (fun H => ?_) (fun H => ?_)
      · exact j_el (T_X9_cut_58  hw   H) (And.intro rfl trivial)
      · refine j_aload_n (dk dt_X9_cut 25 rfl) rfl ?_
        refine jz_getG (kz := 2) (dk dt_X9_cut 26 rfl) fl_X9_230 rfl rfl e_9 k_9 ?_
        refine j_lconst (v := Int64.ofInt 0) (dk dt_X9_cut 27 rfl) (by decide) ?_
        refine jz_lcmp (dk dt_X9_cut 28 rfl) (hw.2.1 _ _) (by decide) ?_
        refine jz_lif_ge 67 (dk dt_X9_cut 29 rfl) (by decide) H (fun H => ?_) (fun H => ?_)
        · refine j_aload_n (dk dt_X9_cut 35 rfl) rfl ?_
          refine jz_getG (kz := 2) (dk dt_X9_cut 36 rfl) fl_X9_230 rfl rfl e_1 k_1 ?_
          refine jz_l2i (dk dt_X9_cut 37 rfl) ?_
          refine j_istore (dk dt_X9_cut 38 rfl) (by decide) ?_
          refine j_aload_n (dk dt_X9_cut 39 rfl) rfl ?_
          refine jz_getG (kz := 2) (dk dt_X9_cut 40 rfl) fl_X9_230 rfl rfl e_9 k_9 ?_
          refine j_iload (dk dt_X9_cut 41 rfl) rfl ?_
          refine jz_i2l (dk dt_X9_cut 42 rfl) (r32_w _) ?_
          refine jz_lmmin (dk dt_X9_cut 43 rfl) sl_X9_299 (by decide) (Nat.le_of_ble_eq_true rfl) (hw.2.1 _ _) (r64_3 (r32_w _)) ?_
          refine jz_l2i (dk dt_X9_cut 44 rfl) ?_
          refine j_istore (dk dt_X9_cut 45 rfl) (by decide) ?_
          refine j_iload_n (dk dt_X9_cut 46 rfl) rfl ?_
          refine j_bipush (v := Int32.ofInt 31) (dk dt_X9_cut 47 rfl) (by decide) ?_
          refine jz_icmp_ne 97 (dk dt_X9_cut 48 rfl) (by decide) r_x1 (by decide) H (fun H => ?_) (fun H => ?_)
          · refine j_iconst (v := Int32.ofInt 0) (dk dt_X9_cut 49 rfl) (by decide) ?_
            refine j_goto 102 (dk dt_X9_cut 50 rfl) (by decide) ?_
            exact j_el (T_X9_cut_102 (r32_w _) (by decide) hw   H) (And.intro rfl (And.intro rfl trivial))
          · refine j_iload (dk dt_X9_cut 51 rfl) rfl ?_
            refine j_iload (dk dt_X9_cut 52 rfl) rfl ?_
            refine jz_isub (dk dt_X9_cut 53 rfl) ?_
            exact j_el (T_X9_cut_102 (r32_w _) (r32_w _) hw   H) (And.intro rfl (And.intro rfl trivial))
        · exact j_el (T_X9_cut_58  hw   H) (And.intro rfl trivial)
def F_X9_takeOne_78  (z : Z) (P : Z → Prop) : Prop :=
  P z
theorem T_X9_takeOne_78  {z : Z} {P : Z → Prop}  (hw : Wz z)   (H : F_X9_takeOne_78 z P) : J mX9_takeOne 6 0 0 (nx (QZV P)) 78 [none, none, none, none] [] (cz z) := by
  unfold F_X9_takeOne_78 at H
  exact j_return (dk dt_X9_takeOne 44 rfl) rfl ⟨_, rfl, rfl, hw, H⟩
def F_X9_takeOne_40  (x3 : Option Nat) (z : Z) (P : Z → Prop) : Prop :=
  (∃ a_45, x3 = some a_45 ∧ zK z a_45 = 9 ∧ F_X8_set a_45 4 3 z (fun z_45 => F_X9_takeOne_78 z_45 P))
theorem T_X9_takeOne_40  {x3 : Option Nat} {z : Z} {P : Z → Prop}  (hw : Wz z)   (H : F_X9_takeOne_40 x3 z P) : J mX9_takeOne 6 0 0 (nx (QZV P)) 40 [none, none, none, some (vr (x3))] [] (cz z) := by
  unfold F_X9_takeOne_40 at H
  refine j_aload_n (dk dt_X9_takeOne 22 rfl) rfl ?_
  refine j_iconst (v := Int32.ofInt 4) (dk dt_X9_takeOne 23 rfl) (by decide) ?_
  refine j_ldc2 (v := Int64.ofInt (3)) (dk dt_X9_takeOne 24 rfl) (by exact kl_X9_240) ?_
  obtain ⟨a_45, e_45, k_45, H⟩ := H
  refine jz_callV2 (dk dt_X9_takeOne 25 rfl) vl_X9_145 e_45 (T_X8_set (by decide) (by decide) hw H) k_45 rfl (by decide) (Nat.zero_le _) (Nat.zero_le _) (Nat.le_of_ble_eq_true rfl) (fun v_45 h_45 P_45 => ?_)
  obtain ⟨z_45, rfl, rfl, w_45, H⟩ := P_45
  dsimp only [rs]
  refine j_goto 78 (dk dt_X9_takeOne 26 rfl) (by decide) ?_
  exact j_el (T_X9_takeOne_78  w_45   H) trivial
def F_X9_takeOne_74  (s0 : Option Nat) (s1 : Option Nat) (s2 : Int) (z : Z) (P : Z → Prop) : Prop :=
  (∃ a_74, s1 = some a_74 ∧ zK z a_74 = 22 ∧ (0 ≤ s2 ∧ s2 < zN z a_74 ∧ (∃ a_75, s0 = some a_75 ∧ zK z a_75 = 9 ∧ F_X8_take a_75 (zO z a_74 s2) z (fun z_75 => F_X9_takeOne_78 z_75 P))))
theorem T_X9_takeOne_74  {s0 : Option Nat} {s1 : Option Nat} {s2 : Int} {z : Z} {P : Z → Prop} (r_s2 : R32 s2) (hw : Wz z)   (H : F_X9_takeOne_74 s0 s1 s2 z P) : J mX9_takeOne 6 0 0 (nx (QZV P)) 74 [none, none, none, none] [ii (s2), vr (s1), vr (s0)] (cz z) := by
  unfold F_X9_takeOne_74 at H
  obtain ⟨a_74, e_74, k_74, H⟩ := H
  obtain ⟨p_74, q_74, H⟩ := H
  refine jz_aald (t := 8) (dk dt_X9_takeOne 42 rfl) e_74 k_74 (by decide) (by decide) p_74 q_74 hw ?_
  obtain ⟨a_75, e_75, k_75, H⟩ := H
  refine jz_callV1 (dk dt_X9_takeOne 43 rfl) vl_X9_195 e_75 (T_X8_take hw H) k_75 rfl (by decide) (Nat.zero_le _) (Nat.zero_le _) (Nat.le_of_ble_eq_true rfl) (fun v_75 h_75 P_75 => ?_)
  obtain ⟨z_75, rfl, rfl, w_75, H⟩ := P_75
  dsimp only [rs]
  exact j_el (T_X9_takeOne_78  w_75   H) trivial
def F_X9_takeOne  (t0 : Nat) (x1 : Int) (x2 : Int) (z : Z) (P : Z → Prop) : Prop :=
  (zK z t0 = 10 ∧ (∃ a_5, zO z t0 1 = some a_5 ∧ zK z a_5 = 22 ∧ (0 ≤ x1 ∧ x1 < zN z a_5 ∧ (∃ a_8, zO z a_5 x1 = some a_8 ∧ zK z a_8 = 9 ∧ (if zI z a_8 1 = 4 then F_X8_set a_8 4 (zG z a_8 2) z (fun z_21 => F_X9_takeOne_78 z_21 P) else F_X8_servesAs a_8 3 z (fun x_29 => (if x_29 = 0 then F_X9_takeOne_40 (zO z a_5 x1) z P else (if 3 ≤ x2 then (if zG z a_8 2 = 0 then F_X9_takeOne_74 (zO z a_5 x1) (zO z t0 1) (w32 (x1 + 2)) z P else F_X9_takeOne_74 (zO z a_5 x1) (zO z t0 1) (w32 (x1 + 1)) z P) else F_X9_takeOne_40 (zO z a_5 x1) z P))))))))
theorem T_X9_takeOne  {t0 : Nat} {x1 : Int} {x2 : Int} {z : Z} {P : Z → Prop} (r_x1 : R32 x1) (r_x2 : R32 x2) (hw : Wz z)  (H : F_X9_takeOne t0 x1 x2 z P) : Con mX9_takeOne 6 0 0 [vr (some t0), ii (x1), ii (x2)] (cz z) (QZV P) := by
  refine con_of rfl (Nat.le_of_ble_eq_true rfl) (by decide) ?_
  show J mX9_takeOne 6 0 0 _ 0 [some (vr (some t0)), some (ii (x1)), some (ii (x2)), none] [] (cz z)
  unfold F_X9_takeOne at H
  refine j_aload_n (dk dt_X9_takeOne 0 rfl) rfl ?_
  obtain ⟨k_1, H⟩ := H
  refine jz_getO (kz := 1) (dk dt_X9_takeOne 1 rfl) fl_X9_11 rfl rfl rfl k_1 ?_
  refine j_iload_n (dk dt_X9_takeOne 2 rfl) rfl ?_
  obtain ⟨a_5, e_5, k_5, H⟩ := H
  obtain ⟨p_5, q_5, H⟩ := H
  refine jz_aald (t := 8) (dk dt_X9_takeOne 3 rfl) e_5 k_5 (by decide) (by decide) p_5 q_5 hw ?_
  refine j_astore_n (dk dt_X9_takeOne 4 rfl) (by decide) ?_
  refine j_aload_n (dk dt_X9_takeOne 5 rfl) rfl ?_
  obtain ⟨a_8, e_8, k_8, H⟩ := H
  refine jz_getI (kz := 1) (dk dt_X9_takeOne 6 rfl) fl_X9_192 rfl rfl e_8 k_8 ?_
  refine j_iconst (v := Int32.ofInt 4) (dk dt_X9_takeOne 7 rfl) (by decide) ?_
  refine jz_icmp_ne 27 (dk dt_X9_takeOne 8 rfl) (by decide) (hw.1 _ _) (by decide) H (fun H => ?_) (fun H => ?_)
  · refine j_aload_n (dk dt_X9_takeOne 9 rfl) rfl ?_
    refine j_iconst (v := Int32.ofInt 4) (dk dt_X9_takeOne 10 rfl) (by decide) ?_
    refine j_aload_n (dk dt_X9_takeOne 11 rfl) rfl ?_
    refine jz_getG (kz := 2) (dk dt_X9_takeOne 12 rfl) fl_X9_230 rfl rfl e_8 k_8 ?_
    refine jz_callV2 (dk dt_X9_takeOne 13 rfl) vl_X9_145 e_8 (T_X8_set (by decide) (hw.2.1 _ _) hw H) k_8 rfl (by decide) (Nat.zero_le _) (Nat.zero_le _) (Nat.le_of_ble_eq_true rfl) (fun v_21 h_21 P_21 => ?_)
    obtain ⟨z_21, rfl, rfl, w_21, H⟩ := P_21
    dsimp only [rs]
    refine j_goto 78 (dk dt_X9_takeOne 14 rfl) (by decide) ?_
    exact j_el (T_X9_takeOne_78  w_21   H) trivial
  · refine j_aload_n (dk dt_X9_takeOne 15 rfl) rfl ?_
    refine j_iconst (v := Int32.ofInt 3) (dk dt_X9_takeOne 16 rfl) (by decide) ?_
    refine jz_callV1 (dk dt_X9_takeOne 17 rfl) vl_X9_237 e_8 (T_X8_servesAs (by decide) hw H) k_8 rfl (by decide) (Nat.zero_le _) (Nat.zero_le _) (Nat.le_of_ble_eq_true rfl) (fun v_29 h_29 P_29 => ?_)
    obtain ⟨x_29, rfl, r_29, rfl, H⟩ := P_29
    dsimp only [rs]
    refine jz_if_eq 40 (dk dt_X9_takeOne 18 rfl) (by decide) r_29 H (fun H => ?_) (fun H => ?_)
    · exact j_el (T_X9_takeOne_40  hw   H) (And.intro rfl trivial)
    · refine j_iload_n (dk dt_X9_takeOne 19 rfl) rfl ?_
      refine j_iconst (v := Int32.ofInt 3) (dk dt_X9_takeOne 20 rfl) (by decide) ?_
      refine jz_icmp_ge 51 (dk dt_X9_takeOne 21 rfl) (by decide) r_x2 (by decide) H (fun H => ?_) (fun H => ?_)
      · refine j_aload_n (dk dt_X9_takeOne 27 rfl) rfl ?_
        refine j_aload_n (dk dt_X9_takeOne 28 rfl) rfl ?_
        refine jz_getO (kz := 1) (dk dt_X9_takeOne 29 rfl) fl_X9_11 rfl rfl rfl k_1 ?_
        refine j_aload_n (dk dt_X9_takeOne 30 rfl) rfl ?_
        refine jz_getG (kz := 2) (dk dt_X9_takeOne 31 rfl) fl_X9_230 rfl rfl e_8 k_8 ?_
        refine j_lconst (v := Int64.ofInt 0) (dk dt_X9_takeOne 32 rfl) (by decide) ?_
        refine jz_lcmp (dk dt_X9_takeOne 33 rfl) (hw.2.1 _ _) (by decide) ?_
        refine jz_lif_eq 71 (dk dt_X9_takeOne 34 rfl) (by decide) H (fun H => ?_) (fun H => ?_)
        · refine j_iload_n (dk dt_X9_takeOne 39 rfl) rfl ?_
          refine j_iconst (v := Int32.ofInt 2) (dk dt_X9_takeOne 40 rfl) (by decide) ?_
          refine jz_iadd (dk dt_X9_takeOne 41 rfl) ?_
          exact j_el (T_X9_takeOne_74 (r32_w _) hw   H) trivial
        · refine j_iload_n (dk dt_X9_takeOne 35 rfl) rfl ?_
          refine j_iconst (v := Int32.ofInt 1) (dk dt_X9_takeOne 36 rfl) (by decide) ?_
          refine jz_iadd (dk dt_X9_takeOne 37 rfl) ?_
          refine j_goto 74 (dk dt_X9_takeOne 38 rfl) (by decide) ?_
          exact j_el (T_X9_takeOne_74 (r32_w _) hw   H) trivial
      · exact j_el (T_X9_takeOne_40  hw   H) (And.intro rfl trivial)
def F_X9_call_116  (z : Z) (P : Z → Prop) : Prop :=
  P z
theorem T_X9_call_116  {z : Z} {P : Z → Prop}  (hw : Wz z)   (H : F_X9_call_116 z P) : J mX9_call 9 0 0 (nx (QZV P)) 116 [none, none, none, none, none] [] (cz z) := by
  unfold F_X9_call_116 at H
  exact j_return (dk dt_X9_call 61 rfl) rfl ⟨_, rfl, rfl, hw, H⟩
def F_X9_call_45  (s0 : Option Nat) (s1 : Int) (z : Z) (P : Z → Prop) : Prop :=
  (∃ a_45, s0 = some a_45 ∧ zK z a_45 = 9 ∧ F_X8_setTruth a_45 s1 z (fun z_45 => F_X9_call_116 z_45 P))
theorem T_X9_call_45  {s0 : Option Nat} {s1 : Int} {z : Z} {P : Z → Prop} (r_s1 : R32 s1) (hw : Wz z)   (H : F_X9_call_45 s0 s1 z P) : J mX9_call 9 0 0 (nx (QZV P)) 45 [none, none, none, none, none] [ii (s1), vr (s0)] (cz z) := by
  unfold F_X9_call_45 at H
  obtain ⟨a_45, e_45, k_45, H⟩ := H
  refine jz_callV1 (dk dt_X9_call 24 rfl) vl_X9_260 e_45 (T_X8_setTruth r_s1 hw H) k_45 rfl (by decide) (Nat.zero_le _) (Nat.zero_le _) (Nat.le_of_ble_eq_true rfl) (fun v_45 h_45 P_45 => ?_)
  obtain ⟨z_45, rfl, rfl, w_45, H⟩ := P_45
  dsimp only [rs]
  refine j_goto 116 (dk dt_X9_call 25 rfl) (by decide) ?_
  exact j_el (T_X9_call_116  w_45   H) trivial
def F_X9_call_63  (t0 : Nat) (x1 : Int) (x2 : Int) (x3 : Int) (x4 : Option Nat) (z : Z) (P : Z → Prop) : Prop :=
  (∃ a_65, x4 = some a_65 ∧ zK z a_65 = 9 ∧ F_X8_becomeText a_65 z (fun z_65 => (zK z_65 t0 = 10 ∧ (∃ a_81, zO z_65 t0 1 = some a_81 ∧ zK z_65 a_81 = 22 ∧ (0 ≤ w32 ((w32 (x2 + x3)) - 1) ∧ w32 ((w32 (x2 + x3)) - 1) < zN z_65 a_81 ∧ F_X9_cut t0 x1 x4 (zO z_65 a_81 (w32 ((w32 (x2 + x3)) - 1))) z_65 (fun z_82 => F_X9_call_116 z_82 P))))))
theorem T_X9_call_63  {t0 : Nat} {x1 : Int} {x2 : Int} {x3 : Int} {x4 : Option Nat} {z : Z} {P : Z → Prop} (r_x1 : R32 x1) (r_x2 : R32 x2) (r_x3 : R32 x3) (hw : Wz z)   (H : F_X9_call_63 t0 x1 x2 x3 x4 z P) : J mX9_call 9 0 0 (nx (QZV P)) 63 [some (vr (some t0)), some (ii (x1)), some (ii (x2)), some (ii (x3)), some (vr (x4))] [] (cz z) := by
  unfold F_X9_call_63 at H
  refine j_aload (dk dt_X9_call 32 rfl) rfl ?_
  obtain ⟨a_65, e_65, k_65, H⟩ := H
  refine jz_callV0 (dk dt_X9_call 33 rfl) vl_X9_245 e_65 (T_X8_becomeText hw H) k_65 rfl (by decide) (Nat.zero_le _) (Nat.zero_le _) (Nat.le_of_ble_eq_true rfl) (fun v_65 h_65 P_65 => ?_)
  obtain ⟨z_65, rfl, rfl, w_65, H⟩ := P_65
  dsimp only [rs]
  refine j_aload_n (dk dt_X9_call 34 rfl) rfl ?_
  refine j_iload_n (dk dt_X9_call 35 rfl) rfl ?_
  refine j_aload (dk dt_X9_call 36 rfl) rfl ?_
  refine j_aload_n (dk dt_X9_call 37 rfl) rfl ?_
  obtain ⟨k_73, H⟩ := H
  refine jz_getO (kz := 1) (dk dt_X9_call 38 rfl) fl_X9_11 rfl rfl rfl k_73 ?_
  refine j_iload_n (dk dt_X9_call 39 rfl) rfl ?_
  refine j_iload_n (dk dt_X9_call 40 rfl) rfl ?_
  refine jz_iadd (dk dt_X9_call 41 rfl) ?_
  refine j_iconst (v := Int32.ofInt 1) (dk dt_X9_call 42 rfl) (by decide) ?_
  refine jz_isub (dk dt_X9_call 43 rfl) ?_
  obtain ⟨a_81, e_81, k_81, H⟩ := H
  obtain ⟨p_81, q_81, H⟩ := H
  refine jz_aald (t := 8) (dk dt_X9_call 44 rfl) e_81 k_81 (by decide) (by decide) p_81 q_81 w_65 ?_
  refine jz_callV3 (dk dt_X9_call 45 rfl) vl_X9_292 rfl (T_X9_cut r_x1 w_65 H) k_73 rfl (by decide) (Nat.zero_le _) (Nat.zero_le _) (Nat.le_of_ble_eq_true rfl) (fun v_82 h_82 P_82 => ?_)
  obtain ⟨z_82, rfl, rfl, w_82, H⟩ := P_82
  dsimp only [rs]
  refine j_goto 116 (dk dt_X9_call 46 rfl) (by decide) ?_
  exact j_el (T_X9_call_116  w_82   H) trivial
def F_X9_call  (t0 : Nat) (x1 : Int) (x2 : Int) (x3 : Int) (z : Z) (P : Z → Prop) : Prop :=
  (zK z t0 = 10 ∧ (∃ a_5, zO z t0 1 = some a_5 ∧ zK z a_5 = 22 ∧ (0 ≤ x2 ∧ x2 < zN z a_5 ∧ (if x1 = 18 then F_X9_takeOne t0 x2 x3 z (fun z_17 => F_X9_call_116 z_17 P) else (if x1 = 28 then (∃ a_33, zO z a_5 x2 = some a_33 ∧ zK z a_33 = 9 ∧ (if zI z a_33 1 = 4 then F_X9_call_45 (zO z a_5 x2) 1 z P else F_X9_call_45 (zO z a_5 x2) 0 z P)) else (if x1 = 31 then F_X9_call_63 t0 x1 x2 x3 (zO z a_5 x2) z P else (if x1 = 32 then F_X9_call_63 t0 x1 x2 x3 (zO z a_5 x2) z P else (if x1 = 27 then (∃ a_96, zO z a_5 x2 = some a_96 ∧ zK z a_96 = 9 ∧ F_X8_becomeText a_96 z (fun z_96 => (zK z_96 t0 = 10 ∧ F_X9_change t0 x1 (zO z a_5 x2) z_96 (fun z_103 => F_X9_call_116 z_103 P)))) else F_X9_change t0 x1 (zO z a_5 x2) z (fun z_113 => F_X9_call_116 z_113 P)))))))))
theorem T_X9_call  {t0 : Nat} {x1 : Int} {x2 : Int} {x3 : Int} {z : Z} {P : Z → Prop} (r_x1 : R32 x1) (r_x2 : R32 x2) (r_x3 : R32 x3) (hw : Wz z)  (H : F_X9_call t0 x1 x2 x3 z P) : Con mX9_call 9 0 0 [vr (some t0), ii (x1), ii (x2), ii (x3)] (cz z) (QZV P) := by
  refine con_of rfl (Nat.le_of_ble_eq_true rfl) (by decide) ?_
  show J mX9_call 9 0 0 _ 0 [some (vr (some t0)), some (ii (x1)), some (ii (x2)), some (ii (x3)), none] [] (cz z)
  unfold F_X9_call at H
  refine j_aload_n (dk dt_X9_call 0 rfl) rfl ?_
  obtain ⟨k_1, H⟩ := H
  refine jz_getO (kz := 1) (dk dt_X9_call 1 rfl) fl_X9_11 rfl rfl rfl k_1 ?_
  refine j_iload_n (dk dt_X9_call 2 rfl) rfl ?_
  obtain ⟨a_5, e_5, k_5, H⟩ := H
  obtain ⟨p_5, q_5, H⟩ := H
  refine jz_aald (t := 8) (dk dt_X9_call 3 rfl) e_5 k_5 (by decide) (by decide) p_5 q_5 hw ?_
  refine j_astore (dk dt_X9_call 4 rfl) (by decide) ?_
  refine j_iload_n (dk dt_X9_call 5 rfl) rfl ?_
  refine j_bipush (v := Int32.ofInt 18) (dk dt_X9_call 6 rfl) (by decide) ?_
  refine jz_icmp_ne 23 (dk dt_X9_call 7 rfl) (by decide) r_x1 (by decide) H (fun H => ?_) (fun H => ?_)
  · refine j_aload_n (dk dt_X9_call 8 rfl) rfl ?_
    refine j_iload_n (dk dt_X9_call 9 rfl) rfl ?_
    refine j_iload_n (dk dt_X9_call 10 rfl) rfl ?_
    refine jz_callV2 (dk dt_X9_call 11 rfl) vl_X9_288 rfl (T_X9_takeOne r_x2 r_x3 hw H) k_1 rfl (by decide) (Nat.zero_le _) (Nat.zero_le _) (Nat.le_of_ble_eq_true rfl) (fun v_17 h_17 P_17 => ?_)
    obtain ⟨z_17, rfl, rfl, w_17, H⟩ := P_17
    dsimp only [rs]
    refine j_goto 116 (dk dt_X9_call 12 rfl) (by decide) ?_
    exact j_el (T_X9_call_116  w_17   H) trivial
  · refine j_iload_n (dk dt_X9_call 13 rfl) rfl ?_
    refine j_bipush (v := Int32.ofInt 28) (dk dt_X9_call 14 rfl) (by decide) ?_
    refine jz_icmp_ne 51 (dk dt_X9_call 15 rfl) (by decide) r_x1 (by decide) H (fun H => ?_) (fun H => ?_)
    · refine j_aload (dk dt_X9_call 16 rfl) rfl ?_
      refine j_aload (dk dt_X9_call 17 rfl) rfl ?_
      obtain ⟨a_33, e_33, k_33, H⟩ := H
      refine jz_getI (kz := 1) (dk dt_X9_call 18 rfl) fl_X9_192 rfl rfl e_33 k_33 ?_
      refine j_iconst (v := Int32.ofInt 4) (dk dt_X9_call 19 rfl) (by decide) ?_
      refine jz_icmp_ne 44 (dk dt_X9_call 20 rfl) (by decide) (hw.1 _ _) (by decide) H (fun H => ?_) (fun H => ?_)
      · refine j_iconst (v := Int32.ofInt 1) (dk dt_X9_call 21 rfl) (by decide) ?_
        refine j_goto 45 (dk dt_X9_call 22 rfl) (by decide) ?_
        exact j_el (T_X9_call_45 (by decide) hw   H) trivial
      · refine j_iconst (v := Int32.ofInt 0) (dk dt_X9_call 23 rfl) (by decide) ?_
        exact j_el (T_X9_call_45 (by decide) hw   H) trivial
    · refine j_iload_n (dk dt_X9_call 26 rfl) rfl ?_
      refine j_bipush (v := Int32.ofInt 31) (dk dt_X9_call 27 rfl) (by decide) ?_
      refine jz_icmp_eq 63 (dk dt_X9_call 28 rfl) (by decide) r_x1 (by decide) H (fun H => ?_) (fun H => ?_)
      · exact j_el (T_X9_call_63 r_x1 r_x2 r_x3 hw   H) (And.intro rfl (And.intro rfl (And.intro rfl (And.intro rfl (And.intro rfl trivial)))))
      · refine j_iload_n (dk dt_X9_call 29 rfl) rfl ?_
        refine j_bipush (v := Int32.ofInt 32) (dk dt_X9_call 30 rfl) (by decide) ?_
        refine jz_icmp_ne 88 (dk dt_X9_call 31 rfl) (by decide) r_x1 (by decide) H (fun H => ?_) (fun H => ?_)
        · exact j_el (T_X9_call_63 r_x1 r_x2 r_x3 hw   H) (And.intro rfl (And.intro rfl (And.intro rfl (And.intro rfl (And.intro rfl trivial)))))
        · refine j_iload_n (dk dt_X9_call 47 rfl) rfl ?_
          refine j_bipush (v := Int32.ofInt 27) (dk dt_X9_call 48 rfl) (by decide) ?_
          refine jz_icmp_ne 109 (dk dt_X9_call 49 rfl) (by decide) r_x1 (by decide) H (fun H => ?_) (fun H => ?_)
          · refine j_aload (dk dt_X9_call 50 rfl) rfl ?_
            obtain ⟨a_96, e_96, k_96, H⟩ := H
            refine jz_callV0 (dk dt_X9_call 51 rfl) vl_X9_245 e_96 (T_X8_becomeText hw H) k_96 rfl (by decide) (Nat.zero_le _) (Nat.zero_le _) (Nat.le_of_ble_eq_true rfl) (fun v_96 h_96 P_96 => ?_)
            obtain ⟨z_96, rfl, rfl, w_96, H⟩ := P_96
            dsimp only [rs]
            refine j_aload_n (dk dt_X9_call 52 rfl) rfl ?_
            refine j_iload_n (dk dt_X9_call 53 rfl) rfl ?_
            refine j_aload (dk dt_X9_call 54 rfl) rfl ?_
            obtain ⟨k_103, H⟩ := H
            refine jz_callV2 (dk dt_X9_call 55 rfl) vl_X9_295 rfl (T_X9_change r_x1 w_96 H) k_103 rfl (by decide) (Nat.zero_le _) (Nat.zero_le _) (Nat.le_of_ble_eq_true rfl) (fun v_103 h_103 P_103 => ?_)
            obtain ⟨z_103, rfl, rfl, w_103, H⟩ := P_103
            dsimp only [rs]
            refine j_goto 116 (dk dt_X9_call 56 rfl) (by decide) ?_
            exact j_el (T_X9_call_116  w_103   H) trivial
          · refine j_aload_n (dk dt_X9_call 57 rfl) rfl ?_
            refine j_iload_n (dk dt_X9_call 58 rfl) rfl ?_
            refine j_aload (dk dt_X9_call 59 rfl) rfl ?_
            refine jz_callV2 (dk dt_X9_call 60 rfl) vl_X9_295 rfl (T_X9_change r_x1 hw H) k_1 rfl (by decide) (Nat.zero_le _) (Nat.zero_le _) (Nat.le_of_ble_eq_true rfl) (fun v_113 h_113 P_113 => ?_)
            obtain ⟨z_113, rfl, rfl, w_113, H⟩ := P_113
            dsimp only [rs]
            exact j_el (T_X9_call_116  w_113   H) trivial
def F_X9_findsPlace_54  (s0 : Int) (z : Z) (P : Int → Z → Prop) : Prop :=
  (Z1 s0 ∧ P s0 z)
theorem T_X9_findsPlace_54  {s0 : Int} {z : Z} {P : Int → Z → Prop} (r_s0 : R32 s0) (hw : Wz z)   (H : F_X9_findsPlace_54 s0 z P) : J mX9_findsPlace 5 0 0 (nx (QZI P)) 54 [none, none] [ii (s0)] (cz z) := by
  unfold F_X9_findsPlace_54 at H
  obtain ⟨hz_, H⟩ := H
  exact j_ireturn (dk dt_X9_findsPlace 29 rfl) rfl (nar_z hz_) ⟨_, _, rfl, r_s0, rfl, hw, H⟩
def F_X9_findsPlace_53  (z : Z) (P : Int → Z → Prop) : Prop :=
  F_X9_findsPlace_54 0 z P
theorem T_X9_findsPlace_53  {z : Z} {P : Int → Z → Prop}  (hw : Wz z)   (H : F_X9_findsPlace_53 z P) : J mX9_findsPlace 5 0 0 (nx (QZI P)) 53 [none, none] [] (cz z) := by
  unfold F_X9_findsPlace_53 at H
  refine j_iconst (v := Int32.ofInt 0) (dk dt_X9_findsPlace 28 rfl) (by decide) ?_
  exact j_el (T_X9_findsPlace_54 (by decide) hw   H) trivial
def F_X9_findsPlace  (t0 : Nat) (x1 : Option Nat) (z : Z) (P : Int → Z → Prop) : Prop :=
  (∃ a_1, x1 = some a_1 ∧ zK z a_1 = 9 ∧ (if zI z a_1 1 = 6 then (if zG z a_1 2 < 0 then F_X9_findsPlace_53 z P else (zK z t0 = 10 ∧ (∃ a_26, zO z t0 9 = some a_26 ∧ zK z a_26 = 20 ∧ (if zN z a_26 ≤ zG z a_1 2 then F_X9_findsPlace_53 z P else (0 ≤ w32 (zG z a_1 2) ∧ w32 (zG z a_1 2) < zN z a_26 ∧ F_X9_finds t0 (zO z a_26 (w32 (zG z a_1 2))) z (fun x_43 z_43 => (if x_43 = 0 then F_X9_findsPlace_53 z_43 P else F_X9_findsPlace_54 1 z_43 P))))))) else F_X9_findsPlace_53 z P))
theorem T_X9_findsPlace  {t0 : Nat} {x1 : Option Nat} {z : Z} {P : Int → Z → Prop}  (hw : Wz z)  (H : F_X9_findsPlace t0 x1 z P) : Con mX9_findsPlace 5 0 0 [vr (some t0), vr (x1)] (cz z) (QZI P) := by
  refine con_of rfl (Nat.le_of_ble_eq_true rfl) (by decide) ?_
  show J mX9_findsPlace 5 0 0 _ 0 [some (vr (some t0)), some (vr (x1))] [] (cz z)
  unfold F_X9_findsPlace at H
  refine j_aload_n (dk dt_X9_findsPlace 0 rfl) rfl ?_
  obtain ⟨a_1, e_1, k_1, H⟩ := H
  refine jz_getI (kz := 1) (dk dt_X9_findsPlace 1 rfl) fl_X9_192 rfl rfl e_1 k_1 ?_
  refine j_bipush (v := Int32.ofInt 6) (dk dt_X9_findsPlace 2 rfl) (by decide) ?_
  refine jz_icmp_ne 53 (dk dt_X9_findsPlace 3 rfl) (by decide) (hw.1 _ _) (by decide) H (fun H => ?_) (fun H => ?_)
  · refine j_aload_n (dk dt_X9_findsPlace 4 rfl) rfl ?_
    refine jz_getG (kz := 2) (dk dt_X9_findsPlace 5 rfl) fl_X9_230 rfl rfl e_1 k_1 ?_
    refine j_lconst (v := Int64.ofInt 0) (dk dt_X9_findsPlace 6 rfl) (by decide) ?_
    refine jz_lcmp (dk dt_X9_findsPlace 7 rfl) (hw.2.1 _ _) (by decide) ?_
    refine jz_lif_lt 53 (dk dt_X9_findsPlace 8 rfl) (by decide) H (fun H => ?_) (fun H => ?_)
    · exact j_el (T_X9_findsPlace_53  hw   H) trivial
    · refine j_aload_n (dk dt_X9_findsPlace 9 rfl) rfl ?_
      refine jz_getG (kz := 2) (dk dt_X9_findsPlace 10 rfl) fl_X9_230 rfl rfl e_1 k_1 ?_
      refine j_aload_n (dk dt_X9_findsPlace 11 rfl) rfl ?_
      obtain ⟨k_23, H⟩ := H
      refine jz_getO (kz := 9) (dk dt_X9_findsPlace 12 rfl) fl_X9_87 rfl rfl rfl k_23 ?_
      obtain ⟨a_26, e_26, k_26, H⟩ := H
      refine jz_alen (t := 6) (dk dt_X9_findsPlace 13 rfl) e_26 k_26 (by decide) hw ?_
      refine jz_i2l (dk dt_X9_findsPlace 14 rfl) (r32_len hw _) ?_
      refine jz_lcmp (dk dt_X9_findsPlace 15 rfl) (hw.2.1 _ _) (r64_3 (r32_len hw _)) ?_
      refine jz_lif_ge 53 (dk dt_X9_findsPlace 16 rfl) (by decide) H (fun H => ?_) (fun H => ?_)
      · exact j_el (T_X9_findsPlace_53  hw   H) trivial
      · refine j_aload_n (dk dt_X9_findsPlace 17 rfl) rfl ?_
        refine j_aload_n (dk dt_X9_findsPlace 18 rfl) rfl ?_
        refine jz_getO (kz := 9) (dk dt_X9_findsPlace 19 rfl) fl_X9_87 rfl rfl rfl k_23 ?_
        refine j_aload_n (dk dt_X9_findsPlace 20 rfl) rfl ?_
        refine jz_getG (kz := 2) (dk dt_X9_findsPlace 21 rfl) fl_X9_230 rfl rfl e_1 k_1 ?_
        refine jz_l2i (dk dt_X9_findsPlace 22 rfl) ?_
        obtain ⟨p_42, q_42, H⟩ := H
        refine jz_aald (t := 6) (dk dt_X9_findsPlace 23 rfl) e_26 k_26 (by decide) (by decide) p_42 q_42 hw ?_
        refine jz_callV1 (dk dt_X9_findsPlace 24 rfl) vl_X9_111 rfl (T_X9_finds hw H) k_23 rfl (by decide) (Nat.zero_le _) (Nat.zero_le _) (Nat.le_of_ble_eq_true rfl) (fun v_43 h_43 P_43 => ?_)
        obtain ⟨x_43, z_43, rfl, r_43, rfl, w_43, H⟩ := P_43
        dsimp only [rs]
        refine jz_if_eq 53 (dk dt_X9_findsPlace 25 rfl) (by decide) r_43 H (fun H => ?_) (fun H => ?_)
        · exact j_el (T_X9_findsPlace_53  w_43   H) trivial
        · refine j_iconst (v := Int32.ofInt 1) (dk dt_X9_findsPlace 26 rfl) (by decide) ?_
          refine j_goto 54 (dk dt_X9_findsPlace 27 rfl) (by decide) ?_
          exact j_el (T_X9_findsPlace_54 (by decide) w_43   H) trivial
  · exact j_el (T_X9_findsPlace_53  hw   H) trivial
def F_X8_compares_23  (s0 : Int) (z : Z) (P : Int → Prop) : Prop :=
  (Z1 s0 ∧ P s0)
theorem T_X8_compares_23  {s0 : Int} {z : Z} {P : Int → Prop} (r_s0 : R32 s0) (hw : Wz z)   (H : F_X8_compares_23 s0 z P) : J mX8_compares 2 0 0 (nx (QPI (cz z) P)) 23 [none, none] [ii (s0)] (cz z) := by
  unfold F_X8_compares_23 at H
  obtain ⟨hz_, H⟩ := H
  exact j_ireturn (dk dt_X8_compares 11 rfl) rfl (nar_z hz_) ⟨_, rfl, r_s0, rfl, H⟩
def F_X8_compares_18  (z : Z) (P : Int → Prop) : Prop :=
  F_X8_compares_23 1 z P
theorem T_X8_compares_18  {z : Z} {P : Int → Prop}  (hw : Wz z)   (H : F_X8_compares_18 z P) : J mX8_compares 2 0 0 (nx (QPI (cz z) P)) 18 [none, none] [] (cz z) := by
  unfold F_X8_compares_18 at H
  refine j_iconst (v := Int32.ofInt 1) (dk dt_X8_compares 8 rfl) (by decide) ?_
  refine j_goto 23 (dk dt_X8_compares 9 rfl) (by decide) ?_
  exact j_el (T_X8_compares_23 (by decide) hw   H) trivial
def F_X8_compares  (t0 : Nat) (x1 : Option Nat) (z : Z) (P : Int → Prop) : Prop :=
  (∃ a_2, x1 = some a_2 ∧ zK z a_2 = 9 ∧ (zK z t0 = 9 ∧ F_X8_servesAs t0 (zI z a_2 1) z (fun x_5 => (if x_5 = 0 then (if zI z a_2 1 = 0 then F_X8_compares_18 z P else F_X8_compares_23 0 z P) else F_X8_compares_18 z P))))
theorem T_X8_compares  {t0 : Nat} {x1 : Option Nat} {z : Z} {P : Int → Prop}  (hw : Wz z)  (H : F_X8_compares t0 x1 z P) : Con mX8_compares 2 0 0 [vr (some t0), vr (x1)] (cz z) (QPI (cz z) P) := by
  refine con_of rfl (Nat.le_of_ble_eq_true rfl) (by decide) ?_
  show J mX8_compares 2 0 0 _ 0 [some (vr (some t0)), some (vr (x1))] [] (cz z)
  unfold F_X8_compares at H
  refine j_aload_n (dk dt_X8_compares 0 rfl) rfl ?_
  refine j_aload_n (dk dt_X8_compares 1 rfl) rfl ?_
  obtain ⟨a_2, e_2, k_2, H⟩ := H
  refine jz_getI (kz := 1) (dk dt_X8_compares 2 rfl) fl_X8_21 rfl rfl e_2 k_2 ?_
  obtain ⟨k_5, H⟩ := H
  refine jz_callV1 (dk dt_X8_compares 3 rfl) vl_X8_55 rfl (T_X8_servesAs (hw.1 _ _) hw H) k_5 rfl (by decide) (Nat.zero_le _) (Nat.zero_le _) (Nat.le_of_ble_eq_true rfl) (fun v_5 h_5 P_5 => ?_)
  obtain ⟨x_5, rfl, r_5, rfl, H⟩ := P_5
  dsimp only [rs]
  refine jz_if_ne 18 (dk dt_X8_compares 4 rfl) (by decide) r_5 H (fun H => ?_) (fun H => ?_)
  · refine j_aload_n (dk dt_X8_compares 5 rfl) rfl ?_
    refine jz_getI (kz := 1) (dk dt_X8_compares 6 rfl) fl_X8_21 rfl rfl e_2 k_2 ?_
    refine jz_if_ne 22 (dk dt_X8_compares 7 rfl) (by decide) (hw.1 _ _) H (fun H => ?_) (fun H => ?_)
    · exact j_el (T_X8_compares_18  hw   H) trivial
    · refine j_iconst (v := Int32.ofInt 0) (dk dt_X8_compares 10 rfl) (by decide) ?_
      exact j_el (T_X8_compares_23 (by decide) hw   H) trivial
  · exact j_el (T_X8_compares_18  hw   H) trivial
def F_X6_valueAt_28  (z : Z) (P : Option Nat → Prop) : Prop :=
  P none
theorem T_X6_valueAt_28  {z : Z} {P : Option Nat → Prop}  (hw : Wz z)   (H : F_X6_valueAt_28 z P) : J mX6_valueAt 1 0 0 (nx (QPA (cz z) P)) 28 [none, none, none, none, none] [] (cz z) := by
  unfold F_X6_valueAt_28 at H
  refine j_null (dk dt_X6_valueAt 16 rfl) ?_
  exact j_areturn (dk dt_X6_valueAt 17 rfl) rfl rfl ⟨_, rfl, rfl, H⟩
def F_X6_valueAt_80  (s0 : Option Nat) (z : Z) (P : Option Nat → Prop) : Prop :=
  P s0
theorem T_X6_valueAt_80  {s0 : Option Nat} {z : Z} {P : Option Nat → Prop}  (hw : Wz z)   (H : F_X6_valueAt_80 s0 z P) : J mX6_valueAt 1 0 0 (nx (QPA (cz z) P)) 80 [none, none, none, none, none] [vr (s0)] (cz z) := by
  unfold F_X6_valueAt_80 at H
  exact j_areturn (dk dt_X6_valueAt 47 rfl) rfl rfl ⟨_, rfl, rfl, H⟩
def F_X6_valueAt_66  (x4 : Option Nat) (z : Z) (P : Option Nat → Prop) : Prop :=
  (if x4 = none then F_X6_valueAt_80 none z P else (∃ a_73, x4 = some a_73 ∧ zK z a_73 = 2 ∧ F_X6_valueAt_80 (zO z a_73 1) z P))
theorem T_X6_valueAt_66  {x4 : Option Nat} {z : Z} {P : Option Nat → Prop}  (hw : Wz z)   (H : F_X6_valueAt_66 x4 z P) : J mX6_valueAt 1 0 0 (nx (QPA (cz z) P)) 66 [none, none, none, none, some (vr (x4))] [] (cz z) := by
  unfold F_X6_valueAt_66 at H
  refine j_aload (dk dt_X6_valueAt 41 rfl) rfl ?_
  refine jz_ifnull 79 (dk dt_X6_valueAt 42 rfl) (by decide) H (fun H => ?_) (fun H => ?_)
  · refine j_null (dk dt_X6_valueAt 46 rfl) ?_
    exact j_el (T_X6_valueAt_80  hw   H) trivial
  · refine j_aload (dk dt_X6_valueAt 43 rfl) rfl ?_
    obtain ⟨a_73, e_73, k_73, H⟩ := H
    refine jz_getO (kz := 1) (dk dt_X6_valueAt 44 rfl) fl_X6_68 rfl rfl e_73 k_73 ?_
    refine j_goto 80 (dk dt_X6_valueAt 45 rfl) (by decide) ?_
    exact j_el (T_X6_valueAt_80  hw   H) trivial
def F_X6_valueAt_107  (s0 : Option Nat) (z : Z) (P : Option Nat → Prop) : Prop :=
  P s0
theorem T_X6_valueAt_107  {s0 : Option Nat} {z : Z} {P : Option Nat → Prop}  (hw : Wz z)   (H : F_X6_valueAt_107 s0 z P) : J mX6_valueAt 1 0 0 (nx (QPA (cz z) P)) 107 [none, none, none, none, none] [vr (s0)] (cz z) := by
  unfold F_X6_valueAt_107 at H
  exact j_areturn (dk dt_X6_valueAt 62 rfl) rfl rfl ⟨_, rfl, rfl, H⟩
def F_X6_valueAt_106  (z : Z) (P : Option Nat → Prop) : Prop :=
  F_X6_valueAt_107 none z P
theorem T_X6_valueAt_106  {z : Z} {P : Option Nat → Prop}  (hw : Wz z)   (H : F_X6_valueAt_106 z P) : J mX6_valueAt 1 0 0 (nx (QPA (cz z) P)) 106 [none, none, none, none, none] [] (cz z) := by
  unfold F_X6_valueAt_106 at H
  refine j_null (dk dt_X6_valueAt 61 rfl) ?_
  exact j_el (T_X6_valueAt_107  hw   H) trivial
def F_X6_valueAt  (t0 : Nat) (x1 : Int) (x2 : Int) (z : Z) (P : Option Nat → Prop) : Prop :=
  (if x1 < 1 then F_X6_valueAt_28 z P else (zK z t0 = 7 ∧ (∃ a_10, zO z t0 0 = some a_10 ∧ zK z a_10 = 15 ∧ (if zN z a_10 < x1 then F_X6_valueAt_28 z P else (if x2 < 1 then F_X6_valueAt_28 z P else (∃ a_24, zO z t0 1 = some a_24 ∧ zK z a_24 = 15 ∧ (if x2 ≤ zN z a_24 then (∃ a_49, zO z t0 2 = some a_49 ∧ zK z a_49 = 19 ∧ (0 ≤ w32 ((w32 (w32 ((w32 (x1 - 1)) * (zN z a_24)) + x2)) - 1) ∧ w32 ((w32 (w32 ((w32 (x1 - 1)) * (zN z a_24)) + x2)) - 1) < zN z a_49 ∧ (if zO z a_49 (w32 ((w32 (w32 ((w32 (x1 - 1)) * (zN z a_24)) + x2)) - 1)) = none then F_X6_valueAt_66 (zO z a_49 (w32 ((w32 (w32 ((w32 (x1 - 1)) * (zN z a_24)) + x2)) - 1))) z P else (∃ a_59, zO z a_49 (w32 ((w32 (w32 ((w32 (x1 - 1)) * (zN z a_24)) + x2)) - 1)) = some a_59 ∧ zK z a_59 = 2 ∧ (if zI z a_59 0 = 5 then (if zO z t0 3 = none then F_X6_valueAt_106 z P else (∃ a_93, zO z t0 3 = some a_93 ∧ zK z a_93 = 22 ∧ (if zN z a_93 ≤ w32 ((w32 (w32 ((w32 (x1 - 1)) * (zN z a_24)) + x2)) - 1) then F_X6_valueAt_106 z P else (0 ≤ w32 ((w32 (w32 ((w32 (x1 - 1)) * (zN z a_24)) + x2)) - 1) ∧ w32 ((w32 (w32 ((w32 (x1 - 1)) * (zN z a_24)) + x2)) - 1) < zN z a_93 ∧ F_X6_valueAt_107 (zO z a_93 (w32 ((w32 (w32 ((w32 (x1 - 1)) * (zN z a_24)) + x2)) - 1))) z P)))) else F_X6_valueAt_66 (zO z a_49 (w32 ((w32 (w32 ((w32 (x1 - 1)) * (zN z a_24)) + x2)) - 1))) z P))))) else F_X6_valueAt_28 z P)))))))
theorem T_X6_valueAt  {t0 : Nat} {x1 : Int} {x2 : Int} {z : Z} {P : Option Nat → Prop} (r_x1 : R32 x1) (r_x2 : R32 x2) (hw : Wz z)  (H : F_X6_valueAt t0 x1 x2 z P) : Con mX6_valueAt 1 0 0 [vr (some t0), ii (x1), ii (x2)] (cz z) (QPA (cz z) P) := by
  refine con_of rfl (Nat.le_of_ble_eq_true rfl) (by decide) ?_
  show J mX6_valueAt 1 0 0 _ 0 [some (vr (some t0)), some (ii (x1)), some (ii (x2)), none, none] [] (cz z)
  unfold F_X6_valueAt at H
  refine j_iload_n (dk dt_X6_valueAt 0 rfl) rfl ?_
  refine j_iconst (v := Int32.ofInt 1) (dk dt_X6_valueAt 1 rfl) (by decide) ?_
  refine jz_icmp_lt 28 (dk dt_X6_valueAt 2 rfl) (by decide) r_x1 (by decide) H (fun H => ?_) (fun H => ?_)
  · exact j_el (T_X6_valueAt_28  hw   H) trivial
  · refine j_iload_n (dk dt_X6_valueAt 3 rfl) rfl ?_
    refine j_aload_n (dk dt_X6_valueAt 4 rfl) rfl ?_
    obtain ⟨k_7, H⟩ := H
    refine jz_getO (kz := 0) (dk dt_X6_valueAt 5 rfl) fl_X6_9 rfl rfl rfl k_7 ?_
    obtain ⟨a_10, e_10, k_10, H⟩ := H
    refine jz_alen (t := 1) (dk dt_X6_valueAt 6 rfl) e_10 k_10 (by decide) hw ?_
    refine jz_icmp_gt 28 (dk dt_X6_valueAt 7 rfl) (by decide) r_x1 (r32_len hw _) H (fun H => ?_) (fun H => ?_)
    · exact j_el (T_X6_valueAt_28  hw   H) trivial
    · refine j_iload_n (dk dt_X6_valueAt 8 rfl) rfl ?_
      refine j_iconst (v := Int32.ofInt 1) (dk dt_X6_valueAt 9 rfl) (by decide) ?_
      refine jz_icmp_lt 28 (dk dt_X6_valueAt 10 rfl) (by decide) r_x2 (by decide) H (fun H => ?_) (fun H => ?_)
      · exact j_el (T_X6_valueAt_28  hw   H) trivial
      · refine j_iload_n (dk dt_X6_valueAt 11 rfl) rfl ?_
        refine j_aload_n (dk dt_X6_valueAt 12 rfl) rfl ?_
        refine jz_getO (kz := 1) (dk dt_X6_valueAt 13 rfl) fl_X6_15 rfl rfl rfl k_7 ?_
        obtain ⟨a_24, e_24, k_24, H⟩ := H
        refine jz_alen (t := 1) (dk dt_X6_valueAt 14 rfl) e_24 k_24 (by decide) hw ?_
        refine jz_icmp_le 30 (dk dt_X6_valueAt 15 rfl) (by decide) r_x2 (r32_len hw _) H (fun H => ?_) (fun H => ?_)
        · refine j_iload_n (dk dt_X6_valueAt 18 rfl) rfl ?_
          refine j_iconst (v := Int32.ofInt 1) (dk dt_X6_valueAt 19 rfl) (by decide) ?_
          refine jz_isub (dk dt_X6_valueAt 20 rfl) ?_
          refine j_aload_n (dk dt_X6_valueAt 21 rfl) rfl ?_
          refine jz_getO (kz := 1) (dk dt_X6_valueAt 22 rfl) fl_X6_15 rfl rfl rfl k_7 ?_
          refine jz_alen (t := 1) (dk dt_X6_valueAt 23 rfl) e_24 k_24 (by decide) hw ?_
          refine jz_imul (dk dt_X6_valueAt 24 rfl) ?_
          refine j_iload_n (dk dt_X6_valueAt 25 rfl) rfl ?_
          refine jz_iadd (dk dt_X6_valueAt 26 rfl) ?_
          refine j_iconst (v := Int32.ofInt 1) (dk dt_X6_valueAt 27 rfl) (by decide) ?_
          refine jz_isub (dk dt_X6_valueAt 28 rfl) ?_
          refine j_istore_n (dk dt_X6_valueAt 29 rfl) (by decide) ?_
          refine j_aload_n (dk dt_X6_valueAt 30 rfl) rfl ?_
          refine jz_getO (kz := 2) (dk dt_X6_valueAt 31 rfl) fl_X6_20 rfl rfl rfl k_7 ?_
          refine j_iload_n (dk dt_X6_valueAt 32 rfl) rfl ?_
          obtain ⟨a_49, e_49, k_49, H⟩ := H
          obtain ⟨p_49, q_49, H⟩ := H
          refine jz_aald (t := 5) (dk dt_X6_valueAt 33 rfl) e_49 k_49 (by decide) (by decide) p_49 q_49 hw ?_
          refine j_astore (dk dt_X6_valueAt 34 rfl) (by decide) ?_
          refine j_aload (dk dt_X6_valueAt 35 rfl) rfl ?_
          refine jz_ifnull 66 (dk dt_X6_valueAt 36 rfl) (by decide) H (fun H => ?_) (fun H => ?_)
          · exact j_el (T_X6_valueAt_66  hw   H) (And.intro rfl trivial)
          · refine j_aload (dk dt_X6_valueAt 37 rfl) rfl ?_
            obtain ⟨a_59, e_59, k_59, H⟩ := H
            refine jz_getI (kz := 0) (dk dt_X6_valueAt 38 rfl) fl_X6_65 rfl rfl e_59 k_59 ?_
            refine j_iconst (v := Int32.ofInt 5) (dk dt_X6_valueAt 39 rfl) (by decide) ?_
            refine jz_icmp_eq 81 (dk dt_X6_valueAt 40 rfl) (by decide) (hw.1 _ _) (by decide) H (fun H => ?_) (fun H => ?_)
            · refine j_aload_n (dk dt_X6_valueAt 48 rfl) rfl ?_
              refine jz_getO (kz := 3) (dk dt_X6_valueAt 49 rfl) fl_X6_72 rfl rfl rfl k_7 ?_
              refine jz_ifnull 106 (dk dt_X6_valueAt 50 rfl) (by decide) H (fun H => ?_) (fun H => ?_)
              · exact j_el (T_X6_valueAt_106  hw   H) trivial
              · refine j_iload_n (dk dt_X6_valueAt 51 rfl) rfl ?_
                refine j_aload_n (dk dt_X6_valueAt 52 rfl) rfl ?_
                refine jz_getO (kz := 3) (dk dt_X6_valueAt 53 rfl) fl_X6_72 rfl rfl rfl k_7 ?_
                obtain ⟨a_93, e_93, k_93, H⟩ := H
                refine jz_alen (t := 8) (dk dt_X6_valueAt 54 rfl) e_93 k_93 (by decide) hw ?_
                refine jz_icmp_ge 106 (dk dt_X6_valueAt 55 rfl) (by decide) (r32_w _) (r32_len hw _) H (fun H => ?_) (fun H => ?_)
                · exact j_el (T_X6_valueAt_106  hw   H) trivial
                · refine j_aload_n (dk dt_X6_valueAt 56 rfl) rfl ?_
                  refine jz_getO (kz := 3) (dk dt_X6_valueAt 57 rfl) fl_X6_72 rfl rfl rfl k_7 ?_
                  refine j_iload_n (dk dt_X6_valueAt 58 rfl) rfl ?_
                  obtain ⟨p_102, q_102, H⟩ := H
                  refine jz_aald (t := 8) (dk dt_X6_valueAt 59 rfl) e_93 k_93 (by decide) (by decide) p_102 q_102 hw ?_
                  refine j_goto 107 (dk dt_X6_valueAt 60 rfl) (by decide) ?_
                  exact j_el (T_X6_valueAt_107  hw   H) trivial
            · exact j_el (T_X6_valueAt_66  hw   H) (And.intro rfl trivial)
        · exact j_el (T_X6_valueAt_28  hw   H) trivial
def F_X9_met_22  (s0 : Option Nat) (z : Z) (P : Option Nat → Prop) : Prop :=
  P s0
theorem T_X9_met_22  {s0 : Option Nat} {z : Z} {P : Option Nat → Prop}  (hw : Wz z)   (H : F_X9_met_22 s0 z P) : J mX9_met 2 0 0 (nx (QPA (cz z) P)) 22 [none, none, none, none] [vr (s0)] (cz z) := by
  unfold F_X9_met_22 at H
  exact j_areturn (dk dt_X9_met 12 rfl) rfl rfl ⟨_, rfl, rfl, H⟩
def F_X9_met  (t0 : Nat) (x1 : Int) (x2 : Int) (z : Z) (P : Option Nat → Prop) : Prop :=
  (zK z t0 = 10 ∧ (∃ a_6, zO z t0 11 = some a_6 ∧ zK z a_6 = 7 ∧ F_X6_valueAt a_6 x1 x2 z (fun x_6 => (if x_6 = none then F_X9_met_22 (zO z t0 2) z P else F_X9_met_22 x_6 z P))))
theorem T_X9_met  {t0 : Nat} {x1 : Int} {x2 : Int} {z : Z} {P : Option Nat → Prop} (r_x1 : R32 x1) (r_x2 : R32 x2) (hw : Wz z)  (H : F_X9_met t0 x1 x2 z P) : Con mX9_met 2 0 0 [vr (some t0), ii (x1), ii (x2)] (cz z) (QPA (cz z) P) := by
  refine con_of rfl (Nat.le_of_ble_eq_true rfl) (by decide) ?_
  show J mX9_met 2 0 0 _ 0 [some (vr (some t0)), some (ii (x1)), some (ii (x2)), none] [] (cz z)
  unfold F_X9_met at H
  refine j_aload_n (dk dt_X9_met 0 rfl) rfl ?_
  obtain ⟨k_1, H⟩ := H
  refine jz_getO (kz := 11) (dk dt_X9_met 1 rfl) fl_X9_209 rfl rfl rfl k_1 ?_
  refine j_iload_n (dk dt_X9_met 2 rfl) rfl ?_
  refine j_iload_n (dk dt_X9_met 3 rfl) rfl ?_
  obtain ⟨a_6, e_6, k_6, H⟩ := H
  refine jz_callV2 (dk dt_X9_met 4 rfl) vl_X9_234 e_6 (T_X6_valueAt r_x1 r_x2 hw H) k_6 rfl (by decide) (Nat.zero_le _) (Nat.zero_le _) (Nat.le_of_ble_eq_true rfl) (fun v_6 h_6 P_6 => ?_)
  obtain ⟨x_6, rfl, rfl, H⟩ := P_6
  dsimp only [rs]
  refine j_astore_n (dk dt_X9_met 5 rfl) (by decide) ?_
  refine j_aload_n (dk dt_X9_met 6 rfl) rfl ?_
  refine jz_ifnull 18 (dk dt_X9_met 7 rfl) (by decide) H (fun H => ?_) (fun H => ?_)
  · refine j_aload_n (dk dt_X9_met 10 rfl) rfl ?_
    refine jz_getO (kz := 2) (dk dt_X9_met 11 rfl) fl_X9_20 rfl rfl rfl k_1 ?_
    exact j_el (T_X9_met_22  hw   H) trivial
  · refine j_aload_n (dk dt_X9_met 8 rfl) rfl ?_
    refine j_goto 22 (dk dt_X9_met 9 rfl) (by decide) ?_
    exact j_el (T_X9_met_22  hw   H) trivial
