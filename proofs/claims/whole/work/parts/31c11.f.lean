def F_X9_search_97  (t0 : Nat) (x1 : Int) (x2 : Option Nat) (x3 : Option Nat) (x4 : Int) (x5 : Int) (x6 : Int) (x7 : Int) (z : Z) (P : (Int × Int × Int) ⊕ ((Int × Int) ⊕ (Int)) → Prop) : Prop :=
  P (.inl (x4, x5, w32 (x7 + 1)))
theorem T_X9_search_97  {t0 : Nat} {x1 : Int} {x2 : Option Nat} {x3 : Option Nat} {x4 : Int} {x5 : Int} {x6 : Int} {x7 : Int} {z : Z} {P : (Int × Int × Int) ⊕ ((Int × Int) ⊕ (Int)) → Prop} {post : Option Sv ⊕ String → Hp → Prop} (r_x1 : R32 x1) (r_x4 : R32 x4) (r_x5 : R32 x5) (r_x6 : R32 x6) (r_x7 : R32 x7) (hw : Wz z)  (hl : ∀ (x4 : Int) (x5 : Int) (x7 : Int), P (.inl (x4, x5, x7)) → R32 x4 → R32 x5 → R32 x7 → J mX9_search 3 0 0 post 27 [some (vr (some t0)), some (ii (x1)), some (vr (x2)), some (vr (x3)), some (ii (x4)), some (ii (x5)), some (ii (x6)), some (ii (x7)), none] [] (cz z)) (he0 : ∀ (x4 : Int) (x5 : Int), P (.inr (.inl (x4, x5))) → R32 x4 → R32 x5 → J mX9_search 3 0 0 post 103 [some (vr (some t0)), some (ii (x1)), some (vr (x2)), some (vr (x3)), some (ii (x4)), some (ii (x5)), some (ii (x6)), none, none] [] (cz z)) (he1 : ∀ (x4 : Int), P (.inr (.inr x4)) → R32 x4 → J mX9_search 3 0 0 post 85 [none, none, some (vr (x2)), none, some (ii (x4)), none, none, none, none] [] (cz z)) (H : F_X9_search_97 t0 x1 x2 x3 x4 x5 x6 x7 z P) : J mX9_search 3 0 0 (post) 97 [some (vr (some t0)), some (ii (x1)), some (vr (x2)), some (vr (x3)), some (ii (x4)), some (ii (x5)), some (ii (x6)), some (ii (x7)), none] [] (cz z) := by
  unfold F_X9_search_97 at H
  refine jz_iinc (dk dt_X9_search 47 rfl) rfl ?_
  refine j_goto 27 (dk dt_X9_search 48 rfl) (by decide) ?_
  exact j_el (hl _ _ _ H r_x4 r_x5 (r32_w _)) (And.intro rfl (And.intro rfl (And.intro rfl (And.intro rfl (And.intro rfl (And.intro rfl (And.intro rfl (And.intro rfl trivial))))))))
def L_X9_search_27  (t0 : Nat) (x1 : Int) (x2 : Option Nat) (x3 : Option Nat) (x4 : Int) (x5 : Int) (x6 : Int) (x7 : Int) (z : Z) (P : (Int × Int × Int) ⊕ ((Int × Int) ⊕ (Int)) → Prop) : Prop :=
  (zK z t0 = 10 ∧ (if zI z t0 15 < x7 then P (.inr (.inl (x4, x5))) else F_X9_met t0 x6 x7 z (fun x_41 => (∃ a_51, x_41 = some a_51 ∧ zK z a_51 = 9 ∧ (if zI z a_51 1 = 4 then F_X9_search_97 t0 x1 x2 x3 (w32 (x4 + 1)) x5 x6 x7 z P else F_X8_compares a_51 x3 z (fun x_61 => (if x_61 = 0 then F_X9_search_97 t0 x1 x2 x3 (w32 (x4 + 1)) x5 x6 x7 z P else F_X8_compared a_51 x3 z (fun x_70 => (if x_70 = 0 then (if x1 = 34 then P (.inr (.inr (w32 (x4 + 1)))) else F_X9_search_97 t0 x1 x2 x3 (w32 (x4 + 1)) (w32 (x5 + 1)) x6 x7 z P) else F_X9_search_97 t0 x1 x2 x3 (w32 (x4 + 1)) x5 x6 x7 z P)))))))))
theorem U_X9_search_27  {t0 : Nat} {x1 : Int} {x2 : Option Nat} {x3 : Option Nat} {x4 : Int} {x5 : Int} {x6 : Int} {x7 : Int} {z : Z} {P : (Int × Int × Int) ⊕ ((Int × Int) ⊕ (Int)) → Prop} {post : Option Sv ⊕ String → Hp → Prop} (r_x1 : R32 x1) (r_x4 : R32 x4) (r_x5 : R32 x5) (r_x6 : R32 x6) (r_x7 : R32 x7) (hw : Wz z)  (hl : ∀ (x4 : Int) (x5 : Int) (x7 : Int), P (.inl (x4, x5, x7)) → R32 x4 → R32 x5 → R32 x7 → J mX9_search 3 0 0 post 27 [some (vr (some t0)), some (ii (x1)), some (vr (x2)), some (vr (x3)), some (ii (x4)), some (ii (x5)), some (ii (x6)), some (ii (x7)), none] [] (cz z)) (he0 : ∀ (x4 : Int) (x5 : Int), P (.inr (.inl (x4, x5))) → R32 x4 → R32 x5 → J mX9_search 3 0 0 post 103 [some (vr (some t0)), some (ii (x1)), some (vr (x2)), some (vr (x3)), some (ii (x4)), some (ii (x5)), some (ii (x6)), none, none] [] (cz z)) (he1 : ∀ (x4 : Int), P (.inr (.inr x4)) → R32 x4 → J mX9_search 3 0 0 post 85 [none, none, some (vr (x2)), none, some (ii (x4)), none, none, none, none] [] (cz z)) (H : L_X9_search_27 t0 x1 x2 x3 x4 x5 x6 x7 z P) : J mX9_search 3 0 0 post 27 [some (vr (some t0)), some (ii (x1)), some (vr (x2)), some (vr (x3)), some (ii (x4)), some (ii (x5)), some (ii (x6)), some (ii (x7)), none] [] (cz z) := by
  unfold L_X9_search_27 at H
  refine j_iload (dk dt_X9_search 14 rfl) rfl ?_
  refine j_aload_n (dk dt_X9_search 15 rfl) rfl ?_
  obtain ⟨k_30, H⟩ := H
  refine jz_getI (kz := 15) (dk dt_X9_search 16 rfl) fl_X9_124 rfl rfl rfl k_30 ?_
  refine jz_icmp_gt 103 (dk dt_X9_search 17 rfl) (by decide) r_x7 (hw.1 _ _) H (fun H => ?_) (fun H => ?_)
  · exact j_el (he0 _ _ H r_x4 r_x5) (And.intro rfl (And.intro rfl (And.intro rfl (And.intro rfl (And.intro rfl (And.intro rfl (And.intro rfl trivial)))))))
  · refine j_aload_n (dk dt_X9_search 18 rfl) rfl ?_
    refine j_iload (dk dt_X9_search 19 rfl) rfl ?_
    refine j_iload (dk dt_X9_search 20 rfl) rfl ?_
    refine jz_callV2 (dk dt_X9_search 21 rfl) vl_X9_201 rfl (T_X9_met r_x6 r_x7 hw H) k_30 rfl (by decide) (Nat.zero_le _) (Nat.zero_le _) (Nat.le_of_ble_eq_true rfl) (fun v_41 h_41 P_41 => ?_)
    obtain ⟨x_41, rfl, rfl, H⟩ := P_41
    dsimp only [rs]
    refine j_astore (dk dt_X9_search 22 rfl) (by decide) ?_
    refine jz_iinc (dk dt_X9_search 23 rfl) rfl ?_
    refine j_aload (dk dt_X9_search 24 rfl) rfl ?_
    obtain ⟨a_51, e_51, k_51, H⟩ := H
    refine jz_getI (kz := 1) (dk dt_X9_search 25 rfl) fl_X9_192 rfl rfl e_51 k_51 ?_
    refine j_iconst (v := Int32.ofInt 4) (dk dt_X9_search 26 rfl) (by decide) ?_
    refine jz_icmp_eq 97 (dk dt_X9_search 27 rfl) (by decide) (hw.1 _ _) (by decide) H (fun H => ?_) (fun H => ?_)
    · exact j_el (T_X9_search_97 r_x1 (r32_w _) r_x5 r_x6 r_x7 hw  hl he0 he1 H) (And.intro rfl (And.intro rfl (And.intro rfl (And.intro rfl (And.intro rfl (And.intro rfl (And.intro rfl (And.intro rfl trivial))))))))
    · refine j_aload (dk dt_X9_search 28 rfl) rfl ?_
      refine j_aload_n (dk dt_X9_search 29 rfl) rfl ?_
      refine jz_callV1 (dk dt_X9_search 30 rfl) vl_X9_256 e_51 (T_X8_compares hw H) k_51 rfl (by decide) (Nat.zero_le _) (Nat.zero_le _) (Nat.le_of_ble_eq_true rfl) (fun v_61 h_61 P_61 => ?_)
      obtain ⟨x_61, rfl, r_61, rfl, H⟩ := P_61
      dsimp only [rs]
      refine jz_if_eq 97 (dk dt_X9_search 31 rfl) (by decide) r_61 H (fun H => ?_) (fun H => ?_)
      · exact j_el (T_X9_search_97 r_x1 (r32_w _) r_x5 r_x6 r_x7 hw  hl he0 he1 H) (And.intro rfl (And.intro rfl (And.intro rfl (And.intro rfl (And.intro rfl (And.intro rfl (And.intro rfl (And.intro rfl trivial))))))))
      · refine j_aload (dk dt_X9_search 32 rfl) rfl ?_
        refine j_aload_n (dk dt_X9_search 33 rfl) rfl ?_
        refine jz_callV1 (dk dt_X9_search 34 rfl) vl_X9_264 e_51 (T_X8_compared hw H) k_51 rfl (by decide) (Nat.zero_le _) (Nat.zero_le _) (Nat.le_of_ble_eq_true rfl) (fun v_70 h_70 P_70 => ?_)
        obtain ⟨x_70, rfl, r_70, rfl, H⟩ := P_70
        dsimp only [rs]
        refine jz_if_eq 79 (dk dt_X9_search 35 rfl) (by decide) r_70 H (fun H => ?_) (fun H => ?_)
        · refine j_iload_n (dk dt_X9_search 37 rfl) rfl ?_
          refine j_bipush (v := Int32.ofInt 34) (dk dt_X9_search 38 rfl) (by decide) ?_
          refine jz_icmp_ne 94 (dk dt_X9_search 39 rfl) (by decide) r_x1 (by decide) H (fun H => ?_) (fun H => ?_)
          · exact j_el (he1 _ H (r32_w _)) (And.intro rfl (And.intro rfl trivial))
          · refine jz_iinc (dk dt_X9_search 46 rfl) rfl ?_
            exact j_el (T_X9_search_97 r_x1 (r32_w _) (r32_w _) r_x6 r_x7 hw  hl he0 he1 H) (And.intro rfl (And.intro rfl (And.intro rfl (And.intro rfl (And.intro rfl (And.intro rfl (And.intro rfl (And.intro rfl trivial))))))))
        · refine j_goto 97 (dk dt_X9_search 36 rfl) (by decide) ?_
          exact j_el (T_X9_search_97 r_x1 (r32_w _) r_x5 r_x6 r_x7 hw  hl he0 he1 H) (And.intro rfl (And.intro rfl (And.intro rfl (And.intro rfl (And.intro rfl (And.intro rfl (And.intro rfl (And.intro rfl trivial))))))))
def F_X9_search_27  (t0 : Nat) (x1 : Int) (x2 : Option Nat) (x3 : Option Nat) (x4 : Int) (x5 : Int) (x6 : Int) (x7 : Int) (z : Z) (P : (Int × Int × Int) ⊕ ((Int) ⊕ (Int)) → Prop) : Prop :=
  lp (S := Int × Int × Int) (E := (Int × Int) ⊕ (Int)) (fun q P_ => L_X9_search_27 t0 x1 x2 x3 q.1 q.2.1 x6 q.2.2 z P_) (x4, x5, x7) (fun e => match e with | (.inl (x4, x5)) => P (.inl (x4, x5, w32 (x6 + 1))) | (.inr x4) => P (.inr (.inr x4)))
theorem T_X9_search_27  {t0 : Nat} {x1 : Int} {x2 : Option Nat} {x3 : Option Nat} {x4 : Int} {x5 : Int} {x6 : Int} {x7 : Int} {z : Z} {P : (Int × Int × Int) ⊕ ((Int) ⊕ (Int)) → Prop} {post : Option Sv ⊕ String → Hp → Prop} (r_x1 : R32 x1) (r_x4 : R32 x4) (r_x5 : R32 x5) (r_x6 : R32 x6) (r_x7 : R32 x7) (hw : Wz z)  (hl : ∀ (x4 : Int) (x5 : Int) (x6 : Int), P (.inl (x4, x5, x6)) → R32 x4 → R32 x5 → R32 x6 → J mX9_search 3 0 0 post 12 [some (vr (some t0)), some (ii (x1)), some (vr (x2)), some (vr (x3)), some (ii (x4)), some (ii (x5)), some (ii (x6)), none, none] [] (cz z)) (he0 : ∀ (x5 : Int), P (.inr (.inl x5)) → R32 x5 → J mX9_search 3 0 0 post 109 [none, some (ii (x1)), some (vr (x2)), none, none, some (ii (x5)), none, none, none] [] (cz z)) (he1 : ∀ (x4 : Int), P (.inr (.inr x4)) → R32 x4 → J mX9_search 3 0 0 post 85 [none, none, some (vr (x2)), none, some (ii (x4)), none, none, none, none] [] (cz z)) (H : F_X9_search_27 t0 x1 x2 x3 x4 x5 x6 x7 z P) : J mX9_search 3 0 0 (post) 27 [some (vr (some t0)), some (ii (x1)), some (vr (x2)), some (vr (x3)), some (ii (x4)), some (ii (x5)), some (ii (x6)), some (ii (x7)), none] [] (cz z) := by
  unfold F_X9_search_27 at H
  refine lp_J (G := fun q => R32 (q.1) → R32 (q.2.1) → R32 (q.2.2) → J mX9_search 3 0 0 (post) 27 [some (vr (some t0)), some (ii (x1)), some (vr (x2)), some (vr (x3)), some (ii ((q.1))), some (ii ((q.2.1))), some (ii (x6)), some (ii ((q.2.2))), none] [] (cz z)) (fun q P_ hl_ he_ Hb => ?_) (x4, x5, x7) H r_x4 r_x5 r_x7
  obtain ⟨x4, x5, x7⟩ := q
  intro r_x4 r_x5 r_x7
  refine U_X9_search_27 (P := P_) r_x1 r_x4 r_x5 r_x6 r_x7 hw  (fun x4 x5 x7 Hp r_x4 r_x5 r_x7 => hl_ (x4, x5, x7) Hp r_x4 r_x5 r_x7) ?_ ?_ Hb
  · intro x4 x5 Hp r_x4 r_x5
    have H := he_ _ Hp
    refine jz_iinc (dk dt_X9_search 49 rfl) rfl ?_
    refine j_goto 12 (dk dt_X9_search 50 rfl) (by decide) ?_
    exact j_el (hl _ _ _ H r_x4 r_x5 (r32_w _)) (And.intro rfl (And.intro rfl (And.intro rfl (And.intro rfl (And.intro rfl (And.intro rfl (And.intro rfl trivial)))))))
  · intro x4 Hp r_x4
    have H := he_ _ Hp
    exact j_el (he1 _ H r_x4) (And.intro rfl (And.intro rfl trivial))
def L_X9_search_12  (t0 : Nat) (x1 : Int) (x2 : Option Nat) (x3 : Option Nat) (x4 : Int) (x5 : Int) (x6 : Int) (z : Z) (P : (Int × Int × Int) ⊕ ((Int) ⊕ (Int)) → Prop) : Prop :=
  (zK z t0 = 10 ∧ (if zI z t0 13 < x6 then P (.inr (.inl x5)) else F_X9_search_27 t0 x1 x2 x3 x4 x5 x6 (zI z t0 14) z P))
theorem U_X9_search_12  {t0 : Nat} {x1 : Int} {x2 : Option Nat} {x3 : Option Nat} {x4 : Int} {x5 : Int} {x6 : Int} {z : Z} {P : (Int × Int × Int) ⊕ ((Int) ⊕ (Int)) → Prop} {post : Option Sv ⊕ String → Hp → Prop} (r_x1 : R32 x1) (r_x4 : R32 x4) (r_x5 : R32 x5) (r_x6 : R32 x6) (hw : Wz z)  (hl : ∀ (x4 : Int) (x5 : Int) (x6 : Int), P (.inl (x4, x5, x6)) → R32 x4 → R32 x5 → R32 x6 → J mX9_search 3 0 0 post 12 [some (vr (some t0)), some (ii (x1)), some (vr (x2)), some (vr (x3)), some (ii (x4)), some (ii (x5)), some (ii (x6)), none, none] [] (cz z)) (he0 : ∀ (x5 : Int), P (.inr (.inl x5)) → R32 x5 → J mX9_search 3 0 0 post 109 [none, some (ii (x1)), some (vr (x2)), none, none, some (ii (x5)), none, none, none] [] (cz z)) (he1 : ∀ (x4 : Int), P (.inr (.inr x4)) → R32 x4 → J mX9_search 3 0 0 post 85 [none, none, some (vr (x2)), none, some (ii (x4)), none, none, none, none] [] (cz z)) (H : L_X9_search_12 t0 x1 x2 x3 x4 x5 x6 z P) : J mX9_search 3 0 0 post 12 [some (vr (some t0)), some (ii (x1)), some (vr (x2)), some (vr (x3)), some (ii (x4)), some (ii (x5)), some (ii (x6)), none, none] [] (cz z) := by
  unfold L_X9_search_12 at H
  refine j_iload (dk dt_X9_search 7 rfl) rfl ?_
  refine j_aload_n (dk dt_X9_search 8 rfl) rfl ?_
  obtain ⟨k_15, H⟩ := H
  refine jz_getI (kz := 13) (dk dt_X9_search 9 rfl) fl_X9_118 rfl rfl rfl k_15 ?_
  refine jz_icmp_gt 109 (dk dt_X9_search 10 rfl) (by decide) r_x6 (hw.1 _ _) H (fun H => ?_) (fun H => ?_)
  · exact j_el (he0 _ H r_x5) (And.intro rfl (And.intro rfl (And.intro rfl trivial)))
  · refine j_aload_n (dk dt_X9_search 11 rfl) rfl ?_
    refine jz_getI (kz := 14) (dk dt_X9_search 12 rfl) fl_X9_121 rfl rfl rfl k_15 ?_
    refine j_istore (dk dt_X9_search 13 rfl) (by decide) ?_
    exact j_el (T_X9_search_27 r_x1 r_x4 r_x5 r_x6 (hw.1 _ _) hw  hl he0 he1 H) (And.intro rfl (And.intro rfl (And.intro rfl (And.intro rfl (And.intro rfl (And.intro rfl (And.intro rfl (And.intro rfl trivial))))))))
def F_X9_search_136  (s0 : Option Nat) (s1 : Int) (s2 : Int) (z : Z) (P : Z → Prop) : Prop :=
  (∃ a_136, s0 = some a_136 ∧ zK z a_136 = 9 ∧ F_X8_set a_136 s1 s2 z (fun z_136 => P z_136))
theorem T_X9_search_136  {s0 : Option Nat} {s1 : Int} {s2 : Int} {z : Z} {P : Z → Prop} (r_s1 : R32 s1) (r_s2 : R64 s2) (hw : Wz z)   (H : F_X9_search_136 s0 s1 s2 z P) : J mX9_search 3 0 0 (nx (QZV P)) 136 [none, none, none, none, none, none, none, none, none] [ll (s2), ii (s1), vr (s0)] (cz z) := by
  unfold F_X9_search_136 at H
  obtain ⟨a_136, e_136, k_136, H⟩ := H
  refine jz_callV2 (dk dt_X9_search 65 rfl) vl_X9_145 e_136 (T_X8_set r_s1 r_s2 hw H) k_136 rfl (by decide) (Nat.zero_le _) (Nat.zero_le _) (Nat.le_of_ble_eq_true rfl) (fun v_136 h_136 P_136 => ?_)
  obtain ⟨z_136, rfl, rfl, w_136, H⟩ := P_136
  dsimp only [rs]
  exact j_return (dk dt_X9_search 66 rfl) rfl ⟨_, rfl, rfl, w_136, H⟩
def F_X9_search_121  (x1 : Int) (x5 : Int) (s0 : Option Nat) (s1 : Int) (z : Z) (P : Z → Prop) : Prop :=
  (if x1 = 34 then F_X9_search_136 s0 s1 7 z P else F_X9_search_136 s0 s1 x5 z P)
theorem T_X9_search_121  {x1 : Int} {x5 : Int} {s0 : Option Nat} {s1 : Int} {z : Z} {P : Z → Prop} (r_x1 : R32 x1) (r_x5 : R32 x5) (r_s1 : R32 s1) (hw : Wz z)   (H : F_X9_search_121 x1 x5 s0 s1 z P) : J mX9_search 3 0 0 (nx (QZV P)) 121 [none, some (ii (x1)), none, none, none, some (ii (x5)), none, none, none] [ii (s1), vr (s0)] (cz z) := by
  unfold F_X9_search_121 at H
  refine j_iload_n (dk dt_X9_search 58 rfl) rfl ?_
  refine j_bipush (v := Int32.ofInt 34) (dk dt_X9_search 59 rfl) (by decide) ?_
  refine jz_icmp_ne 133 (dk dt_X9_search 60 rfl) (by decide) r_x1 (by decide) H (fun H => ?_) (fun H => ?_)
  · refine j_ldc2 (v := Int64.ofInt (7)) (dk dt_X9_search 61 rfl) (by exact kl_X9_311) ?_
    refine j_goto 136 (dk dt_X9_search 62 rfl) (by decide) ?_
    exact j_el (T_X9_search_136 r_s1 (by decide) hw   H) trivial
  · refine j_iload (dk dt_X9_search 63 rfl) rfl ?_
    refine jz_i2l (dk dt_X9_search 64 rfl) r_x5 ?_
    exact j_el (T_X9_search_136 r_s1 (r64_3 r_x5) hw   H) trivial
def F_X9_search_12  (t0 : Nat) (x1 : Int) (x2 : Option Nat) (x3 : Option Nat) (x4 : Int) (x5 : Int) (x6 : Int) (z : Z) (P : Z → Prop) : Prop :=
  lp (S := Int × Int × Int) (E := (Int) ⊕ (Int)) (fun q P_ => L_X9_search_12 t0 x1 x2 x3 q.1 q.2.1 q.2.2 z P_) (x4, x5, x6) (fun e => match e with | (.inl x5) => (if x1 = 34 then F_X9_search_121 x1 x5 x2 4 z P else F_X9_search_121 x1 x5 x2 1 z P) | (.inr x4) => (∃ a_90, x2 = some a_90 ∧ zK z a_90 = 9 ∧ F_X8_set a_90 1 x4 z (fun z_90 => P z_90)))
theorem T_X9_search_12  {t0 : Nat} {x1 : Int} {x2 : Option Nat} {x3 : Option Nat} {x4 : Int} {x5 : Int} {x6 : Int} {z : Z} {P : Z → Prop} (r_x1 : R32 x1) (r_x4 : R32 x4) (r_x5 : R32 x5) (r_x6 : R32 x6) (hw : Wz z)   (H : F_X9_search_12 t0 x1 x2 x3 x4 x5 x6 z P) : J mX9_search 3 0 0 (nx (QZV P)) 12 [some (vr (some t0)), some (ii (x1)), some (vr (x2)), some (vr (x3)), some (ii (x4)), some (ii (x5)), some (ii (x6)), none, none] [] (cz z) := by
  unfold F_X9_search_12 at H
  refine lp_J (G := fun q => R32 (q.1) → R32 (q.2.1) → R32 (q.2.2) → J mX9_search 3 0 0 (nx (QZV P)) 12 [some (vr (some t0)), some (ii (x1)), some (vr (x2)), some (vr (x3)), some (ii ((q.1))), some (ii ((q.2.1))), some (ii ((q.2.2))), none, none] [] (cz z)) (fun q P_ hl_ he_ Hb => ?_) (x4, x5, x6) H r_x4 r_x5 r_x6
  obtain ⟨x4, x5, x6⟩ := q
  intro r_x4 r_x5 r_x6
  refine U_X9_search_12 (P := P_) r_x1 r_x4 r_x5 r_x6 hw  (fun x4 x5 x6 Hp r_x4 r_x5 r_x6 => hl_ (x4, x5, x6) Hp r_x4 r_x5 r_x6) ?_ ?_ Hb
  · intro x5 Hp r_x5
    have H := he_ _ Hp
    refine j_aload_n (dk dt_X9_search 51 rfl) rfl ?_
    refine j_iload_n (dk dt_X9_search 52 rfl) rfl ?_
    refine j_bipush (v := Int32.ofInt 34) (dk dt_X9_search 53 rfl) (by decide) ?_
    refine jz_icmp_ne 120 (dk dt_X9_search 54 rfl) (by decide) r_x1 (by decide) H (fun H => ?_) (fun H => ?_)
    · refine j_iconst (v := Int32.ofInt 4) (dk dt_X9_search 55 rfl) (by decide) ?_
      refine j_goto 121 (dk dt_X9_search 56 rfl) (by decide) ?_
      exact j_el (T_X9_search_121 r_x1 r_x5 (by decide) hw   H) (And.intro rfl (And.intro rfl trivial))
    · refine j_iconst (v := Int32.ofInt 1) (dk dt_X9_search 57 rfl) (by decide) ?_
      exact j_el (T_X9_search_121 r_x1 r_x5 (by decide) hw   H) (And.intro rfl (And.intro rfl trivial))
  · intro x4 Hp r_x4
    have H := he_ _ Hp
    refine j_aload_n (dk dt_X9_search 40 rfl) rfl ?_
    refine j_iconst (v := Int32.ofInt 1) (dk dt_X9_search 41 rfl) (by decide) ?_
    refine j_iload (dk dt_X9_search 42 rfl) rfl ?_
    refine jz_i2l (dk dt_X9_search 43 rfl) r_x4 ?_
    obtain ⟨a_90, e_90, k_90, H⟩ := H
    refine jz_callV2 (dk dt_X9_search 44 rfl) vl_X9_145 e_90 (T_X8_set (by decide) (r64_3 r_x4) hw H) k_90 rfl (by decide) (Nat.zero_le _) (Nat.zero_le _) (Nat.le_of_ble_eq_true rfl) (fun v_90 h_90 P_90 => ?_)
    obtain ⟨z_90, rfl, rfl, w_90, H⟩ := P_90
    dsimp only [rs]
    exact j_return (dk dt_X9_search 45 rfl) rfl ⟨_, rfl, rfl, w_90, H⟩
def F_X9_search  (t0 : Nat) (x1 : Int) (x2 : Option Nat) (x3 : Option Nat) (z : Z) (P : Z → Prop) : Prop :=
  (zK z t0 = 10 ∧ F_X9_search_12 t0 x1 x2 x3 0 0 (zI z t0 12) z P)
theorem T_X9_search  {t0 : Nat} {x1 : Int} {x2 : Option Nat} {x3 : Option Nat} {z : Z} {P : Z → Prop} (r_x1 : R32 x1) (hw : Wz z)  (H : F_X9_search t0 x1 x2 x3 z P) : Con mX9_search 3 0 0 [vr (some t0), ii (x1), vr (x2), vr (x3)] (cz z) (QZV P) := by
  refine con_of rfl (Nat.le_of_ble_eq_true rfl) (by decide) ?_
  show J mX9_search 3 0 0 _ 0 [some (vr (some t0)), some (ii (x1)), some (vr (x2)), some (vr (x3)), none, none, none, none, none] [] (cz z)
  unfold F_X9_search at H
  refine j_iconst (v := Int32.ofInt 0) (dk dt_X9_search 0 rfl) (by decide) ?_
  refine j_istore (dk dt_X9_search 1 rfl) (by decide) ?_
  refine j_iconst (v := Int32.ofInt 0) (dk dt_X9_search 2 rfl) (by decide) ?_
  refine j_istore (dk dt_X9_search 3 rfl) (by decide) ?_
  refine j_aload_n (dk dt_X9_search 4 rfl) rfl ?_
  obtain ⟨k_7, H⟩ := H
  refine jz_getI (kz := 12) (dk dt_X9_search 5 rfl) fl_X9_115 rfl rfl rfl k_7 ?_
  refine j_istore (dk dt_X9_search 6 rfl) (by decide) ?_
  exact j_el (T_X9_search_12 r_x1 (by decide) (by decide) (hw.1 _ _) hw   H) (And.intro rfl (And.intro rfl (And.intro rfl (And.intro rfl (And.intro rfl (And.intro rfl (And.intro rfl trivial)))))))
def F_X9_tellNth_111  (z : Z) (P : Z → Prop) : Prop :=
  P z
theorem T_X9_tellNth_111  {z : Z} {P : Z → Prop}  (hw : Wz z)   (H : F_X9_tellNth_111 z P) : J mX9_tellNth 6 0 0 (nx (QZV P)) 111 [none, none, none, none, none] [] (cz z) := by
  unfold F_X9_tellNth_111 at H
  exact j_return (dk dt_X9_tellNth 66 rfl) rfl ⟨_, rfl, rfl, hw, H⟩
def F_X9_tellNth_67  (x1 : Option Nat) (z : Z) (P : Z → Prop) : Prop :=
  (∃ a_70, x1 = some a_70 ∧ zK z a_70 = 9 ∧ F_X8_set a_70 4 1 z (fun z_70 => F_X9_tellNth_111 z_70 P))
theorem T_X9_tellNth_67  {x1 : Option Nat} {z : Z} {P : Z → Prop}  (hw : Wz z)   (H : F_X9_tellNth_67 x1 z P) : J mX9_tellNth 6 0 0 (nx (QZV P)) 67 [none, some (vr (x1)), none, none, none] [] (cz z) := by
  unfold F_X9_tellNth_67 at H
  refine j_aload_n (dk dt_X9_tellNth 39 rfl) rfl ?_
  refine j_iconst (v := Int32.ofInt 4) (dk dt_X9_tellNth 40 rfl) (by decide) ?_
  refine j_lconst (v := Int64.ofInt 1) (dk dt_X9_tellNth 41 rfl) (by decide) ?_
  obtain ⟨a_70, e_70, k_70, H⟩ := H
  refine jz_callV2 (dk dt_X9_tellNth 42 rfl) vl_X9_145 e_70 (T_X8_set (by decide) (by decide) hw H) k_70 rfl (by decide) (Nat.zero_le _) (Nat.zero_le _) (Nat.le_of_ble_eq_true rfl) (fun v_70 h_70 P_70 => ?_)
  obtain ⟨z_70, rfl, rfl, w_70, H⟩ := P_70
  dsimp only [rs]
  refine j_goto 111 (dk dt_X9_tellNth 43 rfl) (by decide) ?_
  exact j_el (T_X9_tellNth_111  w_70   H) trivial
def F_X9_tellNth  (t0 : Nat) (x1 : Option Nat) (x2 : Option Nat) (z : Z) (P : Z → Prop) : Prop :=
  (zK z t0 = 10 ∧ (∃ a_14, x2 = some a_14 ∧ zK z a_14 = 9 ∧ F_X8_servesAs a_14 1 z (fun x_14 => (if x_14 = 0 then (∃ a_25, x1 = some a_25 ∧ zK z a_25 = 9 ∧ F_X8_set a_25 4 3 z (fun z_25 => F_X9_tellNth_111 z_25 P)) else (if zG z a_14 2 < 1 then F_X9_tellNth_67 x1 z P else (if w32 ((w32 (w32 ((zI z t0 13) - (zI z t0 12)) + 1)) * (w32 (w32 ((zI z t0 15) - (zI z t0 14)) + 1))) < zG z a_14 2 then F_X9_tellNth_67 x1 z P else (if 1 ≤ w32 (w32 ((zI z t0 15) - (zI z t0 14)) + 1) then (¬ w32 (w32 ((zI z t0 15) - (zI z t0 14)) + 1) = 0 ∧ (¬ w32 (w32 ((zI z t0 15) - (zI z t0 14)) + 1) = 0 ∧ F_X9_met t0 (w32 (zI z t0 12 + (w32 (Int.tdiv (w32 ((w32 (zG z a_14 2)) - 1)) (w32 (w32 ((zI z t0 15) - (zI z t0 14)) + 1)))))) (w32 (zI z t0 14 + (w32 (Int.tmod (w32 ((w32 (zG z a_14 2)) - 1)) (w32 (w32 ((zI z t0 15) - (zI z t0 14)) + 1)))))) z (fun x_105 => (∃ a_108, x1 = some a_108 ∧ zK z a_108 = 9 ∧ F_X8_take a_108 x_105 z (fun z_108 => F_X9_tellNth_111 z_108 P))))) else F_X9_tellNth_67 x1 z P)))))))
theorem T_X9_tellNth  {t0 : Nat} {x1 : Option Nat} {x2 : Option Nat} {z : Z} {P : Z → Prop}  (hw : Wz z)  (H : F_X9_tellNth t0 x1 x2 z P) : Con mX9_tellNth 6 0 0 [vr (some t0), vr (x1), vr (x2)] (cz z) (QZV P) := by
  refine con_of rfl (Nat.le_of_ble_eq_true rfl) (by decide) ?_
  show J mX9_tellNth 6 0 0 _ 0 [some (vr (some t0)), some (vr (x1)), some (vr (x2)), none, none] [] (cz z)
  unfold F_X9_tellNth at H
  refine j_aload_n (dk dt_X9_tellNth 0 rfl) rfl ?_
  obtain ⟨k_1, H⟩ := H
  refine jz_getI (kz := 15) (dk dt_X9_tellNth 1 rfl) fl_X9_124 rfl rfl rfl k_1 ?_
  refine j_aload_n (dk dt_X9_tellNth 2 rfl) rfl ?_
  refine jz_getI (kz := 14) (dk dt_X9_tellNth 3 rfl) fl_X9_121 rfl rfl rfl k_1 ?_
  refine jz_isub (dk dt_X9_tellNth 4 rfl) ?_
  refine j_iconst (v := Int32.ofInt 1) (dk dt_X9_tellNth 5 rfl) (by decide) ?_
  refine jz_iadd (dk dt_X9_tellNth 6 rfl) ?_
  refine j_istore_n (dk dt_X9_tellNth 7 rfl) (by decide) ?_
  refine j_aload_n (dk dt_X9_tellNth 8 rfl) rfl ?_
  refine j_iconst (v := Int32.ofInt 1) (dk dt_X9_tellNth 9 rfl) (by decide) ?_
  obtain ⟨a_14, e_14, k_14, H⟩ := H
  refine jz_callV1 (dk dt_X9_tellNth 10 rfl) vl_X9_237 e_14 (T_X8_servesAs (by decide) hw H) k_14 rfl (by decide) (Nat.zero_le _) (Nat.zero_le _) (Nat.le_of_ble_eq_true rfl) (fun v_14 h_14 P_14 => ?_)
  obtain ⟨x_14, rfl, r_14, rfl, H⟩ := P_14
  dsimp only [rs]
  refine jz_if_ne 31 (dk dt_X9_tellNth 11 rfl) (by decide) r_14 H (fun H => ?_) (fun H => ?_)
  · refine j_aload_n (dk dt_X9_tellNth 12 rfl) rfl ?_
    refine j_iconst (v := Int32.ofInt 4) (dk dt_X9_tellNth 13 rfl) (by decide) ?_
    refine j_ldc2 (v := Int64.ofInt (3)) (dk dt_X9_tellNth 14 rfl) (by exact kl_X9_240) ?_
    obtain ⟨a_25, e_25, k_25, H⟩ := H
    refine jz_callV2 (dk dt_X9_tellNth 15 rfl) vl_X9_145 e_25 (T_X8_set (by decide) (by decide) hw H) k_25 rfl (by decide) (Nat.zero_le _) (Nat.zero_le _) (Nat.le_of_ble_eq_true rfl) (fun v_25 h_25 P_25 => ?_)
    obtain ⟨z_25, rfl, rfl, w_25, H⟩ := P_25
    dsimp only [rs]
    refine j_goto 111 (dk dt_X9_tellNth 16 rfl) (by decide) ?_
    exact j_el (T_X9_tellNth_111  w_25   H) trivial
  · refine j_aload_n (dk dt_X9_tellNth 17 rfl) rfl ?_
    refine jz_getG (kz := 2) (dk dt_X9_tellNth 18 rfl) fl_X9_230 rfl rfl e_14 k_14 ?_
    refine j_lconst (v := Int64.ofInt 1) (dk dt_X9_tellNth 19 rfl) (by decide) ?_
    refine jz_lcmp (dk dt_X9_tellNth 20 rfl) (hw.2.1 _ _) (by decide) ?_
    refine jz_lif_lt 67 (dk dt_X9_tellNth 21 rfl) (by decide) H (fun H => ?_) (fun H => ?_)
    · exact j_el (T_X9_tellNth_67  hw   H) (And.intro rfl trivial)
    · refine j_aload_n (dk dt_X9_tellNth 22 rfl) rfl ?_
      refine jz_getG (kz := 2) (dk dt_X9_tellNth 23 rfl) fl_X9_230 rfl rfl e_14 k_14 ?_
      refine j_aload_n (dk dt_X9_tellNth 24 rfl) rfl ?_
      refine jz_getI (kz := 13) (dk dt_X9_tellNth 25 rfl) fl_X9_118 rfl rfl rfl k_1 ?_
      refine j_aload_n (dk dt_X9_tellNth 26 rfl) rfl ?_
      refine jz_getI (kz := 12) (dk dt_X9_tellNth 27 rfl) fl_X9_115 rfl rfl rfl k_1 ?_
      refine jz_isub (dk dt_X9_tellNth 28 rfl) ?_
      refine j_iconst (v := Int32.ofInt 1) (dk dt_X9_tellNth 29 rfl) (by decide) ?_
      refine jz_iadd (dk dt_X9_tellNth 30 rfl) ?_
      refine j_iload_n (dk dt_X9_tellNth 31 rfl) rfl ?_
      refine jz_imul (dk dt_X9_tellNth 32 rfl) ?_
      refine jz_i2l (dk dt_X9_tellNth 33 rfl) (r32_w _) ?_
      refine jz_lcmp (dk dt_X9_tellNth 34 rfl) (hw.2.1 _ _) (r64_3 (r32_w _)) ?_
      refine jz_lif_gt 67 (dk dt_X9_tellNth 35 rfl) (by decide) H (fun H => ?_) (fun H => ?_)
      · exact j_el (T_X9_tellNth_67  hw   H) (And.intro rfl trivial)
      · refine j_iload_n (dk dt_X9_tellNth 36 rfl) rfl ?_
        refine j_iconst (v := Int32.ofInt 1) (dk dt_X9_tellNth 37 rfl) (by decide) ?_
        refine jz_icmp_ge 76 (dk dt_X9_tellNth 38 rfl) (by decide) (r32_w _) (by decide) H (fun H => ?_) (fun H => ?_)
        · refine j_aload_n (dk dt_X9_tellNth 44 rfl) rfl ?_
          refine jz_getG (kz := 2) (dk dt_X9_tellNth 45 rfl) fl_X9_230 rfl rfl e_14 k_14 ?_
          refine jz_l2i (dk dt_X9_tellNth 46 rfl) ?_
          refine j_iconst (v := Int32.ofInt 1) (dk dt_X9_tellNth 47 rfl) (by decide) ?_
          refine jz_isub (dk dt_X9_tellNth 48 rfl) ?_
          refine j_istore (dk dt_X9_tellNth 49 rfl) (by decide) ?_
          refine j_aload_n (dk dt_X9_tellNth 50 rfl) rfl ?_
          refine j_aload_n (dk dt_X9_tellNth 51 rfl) rfl ?_
          refine j_aload_n (dk dt_X9_tellNth 52 rfl) rfl ?_
          refine jz_getI (kz := 12) (dk dt_X9_tellNth 53 rfl) fl_X9_115 rfl rfl rfl k_1 ?_
          refine j_iload (dk dt_X9_tellNth 54 rfl) rfl ?_
          refine j_iload_n (dk dt_X9_tellNth 55 rfl) rfl ?_
          obtain ⟨n_94, H⟩ := H
          refine jz_idiv (dk dt_X9_tellNth 56 rfl) (r32_w _) (r32_w _) n_94 ?_
          refine jz_iadd (dk dt_X9_tellNth 57 rfl) ?_
          refine j_aload_n (dk dt_X9_tellNth 58 rfl) rfl ?_
          refine jz_getI (kz := 14) (dk dt_X9_tellNth 59 rfl) fl_X9_121 rfl rfl rfl k_1 ?_
          refine j_iload (dk dt_X9_tellNth 60 rfl) rfl ?_
          refine j_iload_n (dk dt_X9_tellNth 61 rfl) rfl ?_
          obtain ⟨n_103, H⟩ := H
          refine jz_irem (dk dt_X9_tellNth 62 rfl) (r32_w _) (r32_w _) n_103 ?_
          refine jz_iadd (dk dt_X9_tellNth 63 rfl) ?_
          refine jz_callV2 (dk dt_X9_tellNth 64 rfl) vl_X9_201 rfl (T_X9_met (r32_w _) (r32_w _) hw H) k_1 rfl (by decide) (Nat.zero_le _) (Nat.zero_le _) (Nat.le_of_ble_eq_true rfl) (fun v_105 h_105 P_105 => ?_)
          obtain ⟨x_105, rfl, rfl, H⟩ := P_105
          dsimp only [rs]
          obtain ⟨a_108, e_108, k_108, H⟩ := H
          refine jz_callV1 (dk dt_X9_tellNth 65 rfl) vl_X9_195 e_108 (T_X8_take hw H) k_108 rfl (by decide) (Nat.zero_le _) (Nat.zero_le _) (Nat.le_of_ble_eq_true rfl) (fun v_108 h_108 P_108 => ?_)
          obtain ⟨z_108, rfl, rfl, w_108, H⟩ := P_108
          dsimp only [rs]
          exact j_el (T_X9_tellNth_111  w_108   H) trivial
        · exact j_el (T_X9_tellNth_67  hw   H) (And.intro rfl trivial)
def F_X9_callOfPlace_158  (z : Z) (P : Z → Prop) : Prop :=
  P z
theorem T_X9_callOfPlace_158  {z : Z} {P : Z → Prop}  (hw : Wz z)   (H : F_X9_callOfPlace_158 z P) : J mX9_callOfPlace 7 0 0 (nx (QZV P)) 158 [none, none, none, none, none, none, none, none] [] (cz z) := by
  unfold F_X9_callOfPlace_158 at H
  exact j_return (dk dt_X9_callOfPlace 80 rfl) rfl ⟨_, rfl, rfl, hw, H⟩
def F_X9_callOfPlace_143  (s0 : Option Nat) (s1 : Int) (s2 : Int) (z : Z) (P : Z → Prop) : Prop :=
  (∃ a_143, s0 = some a_143 ∧ zK z a_143 = 9 ∧ F_X8_set a_143 s1 s2 z (fun z_143 => F_X9_callOfPlace_158 z_143 P))
theorem T_X9_callOfPlace_143  {s0 : Option Nat} {s1 : Int} {s2 : Int} {z : Z} {P : Z → Prop} (r_s1 : R32 s1) (r_s2 : R64 s2) (hw : Wz z)   (H : F_X9_callOfPlace_143 s0 s1 s2 z P) : J mX9_callOfPlace 7 0 0 (nx (QZV P)) 143 [none, none, none, none, none, none, none, none] [ll (s2), ii (s1), vr (s0)] (cz z) := by
  unfold F_X9_callOfPlace_143 at H
  obtain ⟨a_143, e_143, k_143, H⟩ := H
  refine jz_callV2 (dk dt_X9_callOfPlace 73 rfl) vl_X9_145 e_143 (T_X8_set r_s1 r_s2 hw H) k_143 rfl (by decide) (Nat.zero_le _) (Nat.zero_le _) (Nat.le_of_ble_eq_true rfl) (fun v_143 h_143 P_143 => ?_)
  obtain ⟨z_143, rfl, rfl, w_143, H⟩ := P_143
  dsimp only [rs]
  refine j_goto 158 (dk dt_X9_callOfPlace 74 rfl) (by decide) ?_
  exact j_el (T_X9_callOfPlace_158  w_143   H) trivial
def F_X9_callOfPlace_121  (t0 : Nat) (x1 : Int) (x4 : Option Nat) (z : Z) (P : Z → Prop) : Prop :=
  (if x1 = 29 then (zK z t0 = 10 ∧ F_X9_callOfPlace_143 x4 1 (zI z t0 12) z P) else (zK z t0 = 10 ∧ F_X9_callOfPlace_143 x4 1 (zI z t0 14) z P))
theorem T_X9_callOfPlace_121  {t0 : Nat} {x1 : Int} {x4 : Option Nat} {z : Z} {P : Z → Prop} (r_x1 : R32 x1) (hw : Wz z)   (H : F_X9_callOfPlace_121 t0 x1 x4 z P) : J mX9_callOfPlace 7 0 0 (nx (QZV P)) 121 [some (vr (some t0)), some (ii (x1)), none, none, some (vr (x4)), none, none, none] [] (cz z) := by
  unfold F_X9_callOfPlace_121 at H
  refine j_aload (dk dt_X9_callOfPlace 61 rfl) rfl ?_
  refine j_iconst (v := Int32.ofInt 1) (dk dt_X9_callOfPlace 62 rfl) (by decide) ?_
  refine j_iload_n (dk dt_X9_callOfPlace 63 rfl) rfl ?_
  refine j_bipush (v := Int32.ofInt 29) (dk dt_X9_callOfPlace 64 rfl) (by decide) ?_
  refine jz_icmp_ne 138 (dk dt_X9_callOfPlace 65 rfl) (by decide) r_x1 (by decide) H (fun H => ?_) (fun H => ?_)
  · refine j_aload_n (dk dt_X9_callOfPlace 66 rfl) rfl ?_
    obtain ⟨k_131, H⟩ := H
    refine jz_getI (kz := 12) (dk dt_X9_callOfPlace 67 rfl) fl_X9_115 rfl rfl rfl k_131 ?_
    refine jz_i2l (dk dt_X9_callOfPlace 68 rfl) (hw.1 _ _) ?_
    refine j_goto 143 (dk dt_X9_callOfPlace 69 rfl) (by decide) ?_
    exact j_el (T_X9_callOfPlace_143 (by decide) (r64_3 (hw.1 _ _)) hw   H) trivial
  · refine j_aload_n (dk dt_X9_callOfPlace 70 rfl) rfl ?_
    obtain ⟨k_139, H⟩ := H
    refine jz_getI (kz := 14) (dk dt_X9_callOfPlace 71 rfl) fl_X9_121 rfl rfl rfl k_139 ?_
    refine jz_i2l (dk dt_X9_callOfPlace 72 rfl) (hw.1 _ _) ?_
    exact j_el (T_X9_callOfPlace_143 (by decide) (r64_3 (hw.1 _ _)) hw   H) trivial
def F_X9_callOfPlace_48  (t0 : Nat) (x1 : Int) (x4 : Option Nat) (x6 : Option Nat) (s0 : Option Nat) (z : Z) (P : Z → Prop) : Prop :=
  (∃ a_52, s0 = some a_52 ∧ zK z a_52 = 9 ∧ (if zI z a_52 1 = 4 then (∃ a_67, x4 = some a_67 ∧ zK z a_67 = 9 ∧ F_X8_set a_67 4 (zG z a_52 2) z (fun z_67 => F_X9_callOfPlace_158 z_67 P)) else (zK z t0 = 10 ∧ F_X9_findsPlace t0 x6 z (fun x_76 z_76 => (if x_76 = 0 then (∃ a_86, x4 = some a_86 ∧ zK z_76 a_86 = 9 ∧ F_X8_set a_86 4 1 z_76 (fun z_86 => F_X9_callOfPlace_158 z_86 P)) else (if x1 = 33 then (zK z_76 t0 = 10 ∧ F_X9_tellNth t0 x4 s0 z_76 (fun z_103 => F_X9_callOfPlace_158 z_103 P)) else (if x1 = 29 then F_X9_callOfPlace_121 t0 x1 x4 z_76 P else (if x1 = 30 then F_X9_callOfPlace_121 t0 x1 x4 z_76 P else (zK z_76 t0 = 10 ∧ F_X9_search t0 x1 x4 s0 z_76 (fun z_155 => F_X9_callOfPlace_158 z_155 P))))))))))
theorem T_X9_callOfPlace_48  {t0 : Nat} {x1 : Int} {x4 : Option Nat} {x6 : Option Nat} {s0 : Option Nat} {z : Z} {P : Z → Prop} (r_x1 : R32 x1) (hw : Wz z)   (H : F_X9_callOfPlace_48 t0 x1 x4 x6 s0 z P) : J mX9_callOfPlace 7 0 0 (nx (QZV P)) 48 [some (vr (some t0)), some (ii (x1)), none, none, some (vr (x4)), none, some (vr (x6)), none] [vr (s0)] (cz z) := by
  unfold F_X9_callOfPlace_48 at H
  refine j_astore (dk dt_X9_callOfPlace 27 rfl) (by decide) ?_
  refine j_aload (dk dt_X9_callOfPlace 28 rfl) rfl ?_
  obtain ⟨a_52, e_52, k_52, H⟩ := H
  refine jz_getI (kz := 1) (dk dt_X9_callOfPlace 29 rfl) fl_X9_192 rfl rfl e_52 k_52 ?_
  refine j_iconst (v := Int32.ofInt 4) (dk dt_X9_callOfPlace 30 rfl) (by decide) ?_
  refine jz_icmp_ne 73 (dk dt_X9_callOfPlace 31 rfl) (by decide) (hw.1 _ _) (by decide) H (fun H => ?_) (fun H => ?_)
  · refine j_aload (dk dt_X9_callOfPlace 32 rfl) rfl ?_
    refine j_iconst (v := Int32.ofInt 4) (dk dt_X9_callOfPlace 33 rfl) (by decide) ?_
    refine j_aload (dk dt_X9_callOfPlace 34 rfl) rfl ?_
    refine jz_getG (kz := 2) (dk dt_X9_callOfPlace 35 rfl) fl_X9_230 rfl rfl e_52 k_52 ?_
    obtain ⟨a_67, e_67, k_67, H⟩ := H
    refine jz_callV2 (dk dt_X9_callOfPlace 36 rfl) vl_X9_145 e_67 (T_X8_set (by decide) (hw.2.1 _ _) hw H) k_67 rfl (by decide) (Nat.zero_le _) (Nat.zero_le _) (Nat.le_of_ble_eq_true rfl) (fun v_67 h_67 P_67 => ?_)
    obtain ⟨z_67, rfl, rfl, w_67, H⟩ := P_67
    dsimp only [rs]
    refine j_goto 158 (dk dt_X9_callOfPlace 37 rfl) (by decide) ?_
    exact j_el (T_X9_callOfPlace_158  w_67   H) trivial
  · refine j_aload_n (dk dt_X9_callOfPlace 38 rfl) rfl ?_
    refine j_aload (dk dt_X9_callOfPlace 39 rfl) rfl ?_
    obtain ⟨k_76, H⟩ := H
    refine jz_callV1 (dk dt_X9_callOfPlace 40 rfl) vl_X9_302 rfl (T_X9_findsPlace hw H) k_76 rfl (by decide) (Nat.zero_le _) (Nat.zero_le _) (Nat.le_of_ble_eq_true rfl) (fun v_76 h_76 P_76 => ?_)
    obtain ⟨x_76, z_76, rfl, r_76, rfl, w_76, H⟩ := P_76
    dsimp only [rs]
    refine jz_if_ne 92 (dk dt_X9_callOfPlace 41 rfl) (by decide) r_76 H (fun H => ?_) (fun H => ?_)
    · refine j_aload (dk dt_X9_callOfPlace 42 rfl) rfl ?_
      refine j_iconst (v := Int32.ofInt 4) (dk dt_X9_callOfPlace 43 rfl) (by decide) ?_
      refine j_lconst (v := Int64.ofInt 1) (dk dt_X9_callOfPlace 44 rfl) (by decide) ?_
      obtain ⟨a_86, e_86, k_86, H⟩ := H
      refine jz_callV2 (dk dt_X9_callOfPlace 45 rfl) vl_X9_145 e_86 (T_X8_set (by decide) (by decide) w_76 H) k_86 rfl (by decide) (Nat.zero_le _) (Nat.zero_le _) (Nat.le_of_ble_eq_true rfl) (fun v_86 h_86 P_86 => ?_)
      obtain ⟨z_86, rfl, rfl, w_86, H⟩ := P_86
      dsimp only [rs]
      refine j_goto 158 (dk dt_X9_callOfPlace 46 rfl) (by decide) ?_
      exact j_el (T_X9_callOfPlace_158  w_86   H) trivial
    · refine j_iload_n (dk dt_X9_callOfPlace 47 rfl) rfl ?_
      refine j_bipush (v := Int32.ofInt 33) (dk dt_X9_callOfPlace 48 rfl) (by decide) ?_
      refine jz_icmp_ne 109 (dk dt_X9_callOfPlace 49 rfl) (by decide) r_x1 (by decide) H (fun H => ?_) (fun H => ?_)
      · refine j_aload_n (dk dt_X9_callOfPlace 50 rfl) rfl ?_
        refine j_aload (dk dt_X9_callOfPlace 51 rfl) rfl ?_
        refine j_aload (dk dt_X9_callOfPlace 52 rfl) rfl ?_
        obtain ⟨k_103, H⟩ := H
        refine jz_callV2 (dk dt_X9_callOfPlace 53 rfl) vl_X9_305 rfl (T_X9_tellNth w_76 H) k_103 rfl (by decide) (Nat.zero_le _) (Nat.zero_le _) (Nat.le_of_ble_eq_true rfl) (fun v_103 h_103 P_103 => ?_)
        obtain ⟨z_103, rfl, rfl, w_103, H⟩ := P_103
        dsimp only [rs]
        refine j_goto 158 (dk dt_X9_callOfPlace 54 rfl) (by decide) ?_
        exact j_el (T_X9_callOfPlace_158  w_103   H) trivial
      · refine j_iload_n (dk dt_X9_callOfPlace 55 rfl) rfl ?_
        refine j_bipush (v := Int32.ofInt 29) (dk dt_X9_callOfPlace 56 rfl) (by decide) ?_
        refine jz_icmp_eq 121 (dk dt_X9_callOfPlace 57 rfl) (by decide) r_x1 (by decide) H (fun H => ?_) (fun H => ?_)
        · exact j_el (T_X9_callOfPlace_121 r_x1 w_76   H) (And.intro rfl (And.intro rfl (And.intro rfl trivial)))
        · refine j_iload_n (dk dt_X9_callOfPlace 58 rfl) rfl ?_
          refine j_bipush (v := Int32.ofInt 30) (dk dt_X9_callOfPlace 59 rfl) (by decide) ?_
          refine jz_icmp_ne 149 (dk dt_X9_callOfPlace 60 rfl) (by decide) r_x1 (by decide) H (fun H => ?_) (fun H => ?_)
          · exact j_el (T_X9_callOfPlace_121 r_x1 w_76   H) (And.intro rfl (And.intro rfl (And.intro rfl trivial)))
          · refine j_aload_n (dk dt_X9_callOfPlace 75 rfl) rfl ?_
            refine j_iload_n (dk dt_X9_callOfPlace 76 rfl) rfl ?_
            refine j_aload (dk dt_X9_callOfPlace 77 rfl) rfl ?_
            refine j_aload (dk dt_X9_callOfPlace 78 rfl) rfl ?_
            obtain ⟨k_155, H⟩ := H
            refine jz_callV3 (dk dt_X9_callOfPlace 79 rfl) vl_X9_308 rfl (T_X9_search r_x1 w_76 H) k_155 rfl (by decide) (Nat.zero_le _) (Nat.zero_le _) (Nat.le_of_ble_eq_true rfl) (fun v_155 h_155 P_155 => ?_)
            obtain ⟨z_155, rfl, rfl, w_155, H⟩ := P_155
            dsimp only [rs]
            exact j_el (T_X9_callOfPlace_158  w_155   H) trivial
def F_X9_callOfPlace_33  (t0 : Nat) (x1 : Int) (x4 : Option Nat) (x5 : Option Nat) (s0 : Option Nat) (z : Z) (P : Z → Prop) : Prop :=
  (if x1 = 34 then F_X9_callOfPlace_48 t0 x1 x4 s0 x4 z P else F_X9_callOfPlace_48 t0 x1 x4 s0 x5 z P)
theorem T_X9_callOfPlace_33  {t0 : Nat} {x1 : Int} {x4 : Option Nat} {x5 : Option Nat} {s0 : Option Nat} {z : Z} {P : Z → Prop} (r_x1 : R32 x1) (hw : Wz z)   (H : F_X9_callOfPlace_33 t0 x1 x4 x5 s0 z P) : J mX9_callOfPlace 7 0 0 (nx (QZV P)) 33 [some (vr (some t0)), some (ii (x1)), none, none, some (vr (x4)), some (vr (x5)), none, none] [vr (s0)] (cz z) := by
  unfold F_X9_callOfPlace_33 at H
  refine j_astore (dk dt_X9_callOfPlace 20 rfl) (by decide) ?_
  refine j_iload_n (dk dt_X9_callOfPlace 21 rfl) rfl ?_
  refine j_bipush (v := Int32.ofInt 34) (dk dt_X9_callOfPlace 22 rfl) (by decide) ?_
  refine jz_icmp_ne 46 (dk dt_X9_callOfPlace 23 rfl) (by decide) r_x1 (by decide) H (fun H => ?_) (fun H => ?_)
  · refine j_aload (dk dt_X9_callOfPlace 24 rfl) rfl ?_
    refine j_goto 48 (dk dt_X9_callOfPlace 25 rfl) (by decide) ?_
    exact j_el (T_X9_callOfPlace_48 r_x1 hw   H) (And.intro rfl (And.intro rfl (And.intro rfl (And.intro rfl trivial))))
  · refine j_aload (dk dt_X9_callOfPlace 26 rfl) rfl ?_
    exact j_el (T_X9_callOfPlace_48 r_x1 hw   H) (And.intro rfl (And.intro rfl (And.intro rfl (And.intro rfl trivial))))
def F_X9_callOfPlace  (t0 : Nat) (x1 : Int) (x2 : Int) (x3 : Int) (z : Z) (P : Z → Prop) : Prop :=
  (zK z t0 = 10 ∧ (∃ a_5, zO z t0 1 = some a_5 ∧ zK z a_5 = 22 ∧ (0 ≤ x2 ∧ x2 < zN z a_5 ∧ (0 ≤ w32 ((w32 (x2 + x3)) - 1) ∧ w32 ((w32 (x2 + x3)) - 1) < zN z a_5 ∧ (if x1 = 34 then F_X9_callOfPlace_33 t0 x1 (zO z a_5 x2) (zO z a_5 (w32 ((w32 (x2 + x3)) - 1))) (zO z a_5 (w32 ((w32 (x2 + x3)) - 1))) z P else F_X9_callOfPlace_33 t0 x1 (zO z a_5 x2) (zO z a_5 (w32 ((w32 (x2 + x3)) - 1))) (zO z a_5 x2) z P)))))
theorem T_X9_callOfPlace  {t0 : Nat} {x1 : Int} {x2 : Int} {x3 : Int} {z : Z} {P : Z → Prop} (r_x1 : R32 x1) (r_x2 : R32 x2) (r_x3 : R32 x3) (hw : Wz z)  (H : F_X9_callOfPlace t0 x1 x2 x3 z P) : Con mX9_callOfPlace 7 0 0 [vr (some t0), ii (x1), ii (x2), ii (x3)] (cz z) (QZV P) := by
  refine con_of rfl (Nat.le_of_ble_eq_true rfl) (by decide) ?_
  show J mX9_callOfPlace 7 0 0 _ 0 [some (vr (some t0)), some (ii (x1)), some (ii (x2)), some (ii (x3)), none, none, none, none] [] (cz z)
  unfold F_X9_callOfPlace at H
  refine j_aload_n (dk dt_X9_callOfPlace 0 rfl) rfl ?_
  obtain ⟨k_1, H⟩ := H
  refine jz_getO (kz := 1) (dk dt_X9_callOfPlace 1 rfl) fl_X9_11 rfl rfl rfl k_1 ?_
  refine j_iload_n (dk dt_X9_callOfPlace 2 rfl) rfl ?_
  obtain ⟨a_5, e_5, k_5, H⟩ := H
  obtain ⟨p_5, q_5, H⟩ := H
  refine jz_aald (t := 8) (dk dt_X9_callOfPlace 3 rfl) e_5 k_5 (by decide) (by decide) p_5 q_5 hw ?_
  refine j_astore (dk dt_X9_callOfPlace 4 rfl) (by decide) ?_
  refine j_aload_n (dk dt_X9_callOfPlace 5 rfl) rfl ?_
  refine jz_getO (kz := 1) (dk dt_X9_callOfPlace 6 rfl) fl_X9_11 rfl rfl rfl k_1 ?_
  refine j_iload_n (dk dt_X9_callOfPlace 7 rfl) rfl ?_
  refine j_iload_n (dk dt_X9_callOfPlace 8 rfl) rfl ?_
  refine jz_iadd (dk dt_X9_callOfPlace 9 rfl) ?_
  refine j_iconst (v := Int32.ofInt 1) (dk dt_X9_callOfPlace 10 rfl) (by decide) ?_
  refine jz_isub (dk dt_X9_callOfPlace 11 rfl) ?_
  obtain ⟨p_17, q_17, H⟩ := H
  refine jz_aald (t := 8) (dk dt_X9_callOfPlace 12 rfl) e_5 k_5 (by decide) (by decide) p_17 q_17 hw ?_
  refine j_astore (dk dt_X9_callOfPlace 13 rfl) (by decide) ?_
  refine j_iload_n (dk dt_X9_callOfPlace 14 rfl) rfl ?_
  refine j_bipush (v := Int32.ofInt 34) (dk dt_X9_callOfPlace 15 rfl) (by decide) ?_
  refine jz_icmp_ne 31 (dk dt_X9_callOfPlace 16 rfl) (by decide) r_x1 (by decide) H (fun H => ?_) (fun H => ?_)
  · refine j_aload (dk dt_X9_callOfPlace 17 rfl) rfl ?_
    refine j_goto 33 (dk dt_X9_callOfPlace 18 rfl) (by decide) ?_
    exact j_el (T_X9_callOfPlace_33 r_x1 hw   H) (And.intro rfl (And.intro rfl (And.intro rfl (And.intro rfl trivial))))
  · refine j_aload (dk dt_X9_callOfPlace 19 rfl) rfl ?_
    exact j_el (T_X9_callOfPlace_33 r_x1 hw   H) (And.intro rfl (And.intro rfl (And.intro rfl (And.intro rfl trivial))))
def F_X9_tally  (t0 : Nat) (x1 : Int) (z : Z) (P : Z → Prop) : Prop :=
  (zK z t0 = 10 ∧ (∀ z_7, z_7 = wI z t0 17 (w32 (zI z t0 17 + 1)) → (∀ z_17, z_17 = wG z_7 t0 18 (w64 ((zG z_7 t0 18) + x1)) → (∀ z_29, z_29 = wG z_17 t0 19 (min (zG z_17 t0 19) x1) → (∀ z_41, z_41 = wG z_29 t0 20 (max (zG z_29 t0 20) x1) → P z_41)))))
theorem T_X9_tally  {t0 : Nat} {x1 : Int} {z : Z} {P : Z → Prop} (r_x1 : R64 x1) (hw : Wz z)  (H : F_X9_tally t0 x1 z P) : Con mX9_tally 4 0 0 [vr (some t0), ll (x1)] (cz z) (QZV P) := by
  refine con_of rfl (Nat.le_of_ble_eq_true rfl) (by decide) ?_
  show J mX9_tally 4 0 0 _ 0 [some (vr (some t0)), some (ll (x1)), none] [] (cz z)
  unfold F_X9_tally at H
  refine j_aload_n (dk dt_X9_tally 0 rfl) rfl ?_
  refine j_dup (dk dt_X9_tally 1 rfl) rfl ?_
  obtain ⟨k_2, H⟩ := H
  refine jz_getI (kz := 17) (dk dt_X9_tally 2 rfl) fl_X9_316 rfl rfl rfl k_2 ?_
  refine j_iconst (v := Int32.ofInt 1) (dk dt_X9_tally 3 rfl) (by decide) ?_
  refine jz_iadd (dk dt_X9_tally 4 rfl) ?_
  refine jz_putI (kz := 17) (dk dt_X9_tally 5 rfl) fl_X9_316 rfl rfl rfl rfl rfl k_2 hw (r32_w _) (fun w_7 => ?_)
  replace H := H _ rfl
  refine j_aload_n (dk dt_X9_tally 6 rfl) rfl ?_
  refine j_dup (dk dt_X9_tally 7 rfl) rfl ?_
  refine jz_getG (kz := 18) (dk dt_X9_tally 8 rfl) fl_X9_319 rfl rfl rfl k_2 ?_
  refine j_lload_n (dk dt_X9_tally 9 rfl) rfl ?_
  refine jz_ladd (dk dt_X9_tally 10 rfl) ?_
  refine jz_putG (kz := 18) (dk dt_X9_tally 11 rfl) fl_X9_319 rfl rfl rfl rfl rfl k_2 w_7 (r64_w _) (fun w_17 => ?_)
  replace H := H _ rfl
  refine j_aload_n (dk dt_X9_tally 12 rfl) rfl ?_
  refine j_aload_n (dk dt_X9_tally 13 rfl) rfl ?_
  refine jz_getG (kz := 19) (dk dt_X9_tally 14 rfl) fl_X9_322 rfl rfl rfl k_2 ?_
  refine j_lload_n (dk dt_X9_tally 15 rfl) rfl ?_
  refine jz_lmmin (dk dt_X9_tally 16 rfl) sl_X9_299 (by decide) (Nat.le_of_ble_eq_true rfl) (w_17.2.1 _ _) r_x1 ?_
  refine jz_putG (kz := 19) (dk dt_X9_tally 17 rfl) fl_X9_322 rfl rfl rfl rfl rfl k_2 w_17 (r64_min (w_17.2.1 _ _) r_x1) (fun w_29 => ?_)
  replace H := H _ rfl
  refine j_aload_n (dk dt_X9_tally 18 rfl) rfl ?_
  refine j_aload_n (dk dt_X9_tally 19 rfl) rfl ?_
  refine jz_getG (kz := 20) (dk dt_X9_tally 20 rfl) fl_X9_327 rfl rfl rfl k_2 ?_
  refine j_lload_n (dk dt_X9_tally 21 rfl) rfl ?_
  refine jz_lmmax (dk dt_X9_tally 22 rfl) sl_X9_342 (by decide) (Nat.le_of_ble_eq_true rfl) (w_29.2.1 _ _) r_x1 ?_
  refine jz_putG (kz := 20) (dk dt_X9_tally 23 rfl) fl_X9_327 rfl rfl rfl rfl rfl k_2 w_29 (r64_max (w_29.2.1 _ _) r_x1) (fun w_41 => ?_)
  replace H := H _ rfl
  exact j_return (dk dt_X9_tally 24 rfl) rfl ⟨_, rfl, rfl, w_41, H⟩
def F_X9_tallyArg_87  (z : Z) (P : Z → Prop) : Prop :=
  P z
theorem T_X9_tallyArg_87  {z : Z} {P : Z → Prop}  (hw : Wz z)   (H : F_X9_tallyArg_87 z P) : J mX9_tallyArg 5 0 0 (nx (QZV P)) 87 [none, none, none] [] (cz z) := by
  unfold F_X9_tallyArg_87 at H
  exact j_return (dk dt_X9_tallyArg 44 rfl) rfl ⟨_, rfl, rfl, hw, H⟩
def F_X9_tallyArg_40  (s0 : Option Nat) (s1 : Int) (s2 : Int) (z : Z) (P : Z → Prop) : Prop :=
  (∃ a_41, s0 = some a_41 ∧ zK z a_41 = 10 ∧ (∀ z_41, z_41 = wI z a_41 17 (w32 (s1 + s2)) → F_X9_tallyArg_87 z_41 P))
theorem T_X9_tallyArg_40  {s0 : Option Nat} {s1 : Int} {s2 : Int} {z : Z} {P : Z → Prop} (r_s1 : R32 s1) (r_s2 : R32 s2) (hw : Wz z)   (H : F_X9_tallyArg_40 s0 s1 s2 z P) : J mX9_tallyArg 5 0 0 (nx (QZV P)) 40 [none, none, none] [ii (s2), ii (s1), vr (s0)] (cz z) := by
  unfold F_X9_tallyArg_40 at H
  refine jz_iadd (dk dt_X9_tallyArg 21 rfl) ?_
  obtain ⟨a_41, e_41, k_41, H⟩ := H
  refine jz_putI (kz := 17) (dk dt_X9_tallyArg 22 rfl) fl_X9_316 rfl rfl rfl rfl e_41 k_41 hw (r32_w _) (fun w_41 => ?_)
  replace H := H _ rfl
  refine j_goto 87 (dk dt_X9_tallyArg 23 rfl) (by decide) ?_
  exact j_el (T_X9_tallyArg_87  w_41   H) trivial
def F_X9_tallyArg_19  (t0 : Nat) (x2 : Option Nat) (s0 : Option Nat) (s1 : Int) (z : Z) (P : Z → Prop) : Prop :=
  (∃ a_19, s0 = some a_19 ∧ zK z a_19 = 10 ∧ (∀ z_19, z_19 = wI z a_19 16 s1 → (zK z_19 t0 = 10 ∧ (∃ a_28, x2 = some a_28 ∧ zK z_19 a_28 = 9 ∧ (if zI z_19 a_28 1 = 1 then F_X9_tallyArg_40 (some t0) (zI z_19 t0 17) 1 z_19 P else F_X9_tallyArg_40 (some t0) (zI z_19 t0 17) 0 z_19 P)))))
theorem T_X9_tallyArg_19  {t0 : Nat} {x2 : Option Nat} {s0 : Option Nat} {s1 : Int} {z : Z} {P : Z → Prop} (r_s1 : R32 s1) (hw : Wz z)   (H : F_X9_tallyArg_19 t0 x2 s0 s1 z P) : J mX9_tallyArg 5 0 0 (nx (QZV P)) 19 [some (vr (some t0)), none, some (vr (x2))] [ii (s1), vr (s0)] (cz z) := by
  unfold F_X9_tallyArg_19 at H
  obtain ⟨a_19, e_19, k_19, H⟩ := H
  refine jz_putI (kz := 16) (dk dt_X9_tallyArg 10 rfl) fl_X9_313 rfl rfl rfl rfl e_19 k_19 hw r_s1 (fun w_19 => ?_)
  replace H := H _ rfl
  refine j_aload_n (dk dt_X9_tallyArg 11 rfl) rfl ?_
  refine j_dup (dk dt_X9_tallyArg 12 rfl) rfl ?_
  obtain ⟨k_24, H⟩ := H
  refine jz_getI (kz := 17) (dk dt_X9_tallyArg 13 rfl) fl_X9_316 rfl rfl rfl k_24 ?_
  refine j_aload_n (dk dt_X9_tallyArg 14 rfl) rfl ?_
  obtain ⟨a_28, e_28, k_28, H⟩ := H
  refine jz_getI (kz := 1) (dk dt_X9_tallyArg 15 rfl) fl_X9_192 rfl rfl e_28 k_28 ?_
  refine j_iconst (v := Int32.ofInt 1) (dk dt_X9_tallyArg 16 rfl) (by decide) ?_
  refine jz_icmp_ne 39 (dk dt_X9_tallyArg 17 rfl) (by decide) (w_19.1 _ _) (by decide) H (fun H => ?_) (fun H => ?_)
  · refine j_iconst (v := Int32.ofInt 1) (dk dt_X9_tallyArg 18 rfl) (by decide) ?_
    refine j_goto 40 (dk dt_X9_tallyArg 19 rfl) (by decide) ?_
    exact j_el (T_X9_tallyArg_40 (w_19.1 _ _) (by decide) w_19   H) trivial
  · refine j_iconst (v := Int32.ofInt 0) (dk dt_X9_tallyArg 20 rfl) (by decide) ?_
    exact j_el (T_X9_tallyArg_40 (w_19.1 _ _) (by decide) w_19   H) trivial
def F_X9_tallyArg_65  (t0 : Nat) (x2 : Option Nat) (s0 : Option Nat) (s1 : Int) (z : Z) (P : Z → Prop) : Prop :=
  (∃ a_65, s0 = some a_65 ∧ zK z a_65 = 9 ∧ F_X8_servesAs a_65 s1 z (fun x_65 => (if x_65 = 0 then (zK z t0 = 10 ∧ (∀ z_84, z_84 = wI z t0 16 3 → F_X9_tallyArg_87 z_84 P)) else (∃ a_73, x2 = some a_73 ∧ zK z a_73 = 9 ∧ (zK z t0 = 10 ∧ F_X9_tally t0 (zG z a_73 2) z (fun z_76 => F_X9_tallyArg_87 z_76 P))))))
theorem T_X9_tallyArg_65  {t0 : Nat} {x2 : Option Nat} {s0 : Option Nat} {s1 : Int} {z : Z} {P : Z → Prop} (r_s1 : R32 s1) (hw : Wz z)   (H : F_X9_tallyArg_65 t0 x2 s0 s1 z P) : J mX9_tallyArg 5 0 0 (nx (QZV P)) 65 [some (vr (some t0)), none, some (vr (x2))] [ii (s1), vr (s0)] (cz z) := by
  unfold F_X9_tallyArg_65 at H
  obtain ⟨a_65, e_65, k_65, H⟩ := H
  refine jz_callV1 (dk dt_X9_tallyArg 34 rfl) vl_X9_237 e_65 (T_X8_servesAs r_s1 hw H) k_65 rfl (by decide) (Nat.zero_le _) (Nat.zero_le _) (Nat.le_of_ble_eq_true rfl) (fun v_65 h_65 P_65 => ?_)
  obtain ⟨x_65, rfl, r_65, rfl, H⟩ := P_65
  dsimp only [rs]
  refine jz_if_eq 82 (dk dt_X9_tallyArg 35 rfl) (by decide) r_65 H (fun H => ?_) (fun H => ?_)
  · refine j_aload_n (dk dt_X9_tallyArg 41 rfl) rfl ?_
    refine j_iconst (v := Int32.ofInt 3) (dk dt_X9_tallyArg 42 rfl) (by decide) ?_
    obtain ⟨k_84, H⟩ := H
    refine jz_putI (kz := 16) (dk dt_X9_tallyArg 43 rfl) fl_X9_313 rfl rfl rfl rfl rfl k_84 hw (by decide) (fun w_84 => ?_)
    replace H := H _ rfl
    exact j_el (T_X9_tallyArg_87  w_84   H) trivial
  · refine j_aload_n (dk dt_X9_tallyArg 36 rfl) rfl ?_
    refine j_aload_n (dk dt_X9_tallyArg 37 rfl) rfl ?_
    obtain ⟨a_73, e_73, k_73, H⟩ := H
    refine jz_getG (kz := 2) (dk dt_X9_tallyArg 38 rfl) fl_X9_230 rfl rfl e_73 k_73 ?_
    obtain ⟨k_76, H⟩ := H
    refine jz_callV1 (dk dt_X9_tallyArg 39 rfl) vl_X9_339 rfl (T_X9_tally (hw.2.1 _ _) hw H) k_76 rfl (by decide) (Nat.zero_le _) (Nat.zero_le _) (Nat.le_of_ble_eq_true rfl) (fun v_76 h_76 P_76 => ?_)
    obtain ⟨z_76, rfl, rfl, w_76, H⟩ := P_76
    dsimp only [rs]
    refine j_goto 87 (dk dt_X9_tallyArg 40 rfl) (by decide) ?_
    exact j_el (T_X9_tallyArg_87  w_76   H) trivial
def F_X9_tallyArg_60  (t0 : Nat) (x2 : Option Nat) (s0 : Option Nat) (z : Z) (P : Z → Prop) : Prop :=
  F_X9_tallyArg_65 t0 x2 s0 3 z P
theorem T_X9_tallyArg_60  {t0 : Nat} {x2 : Option Nat} {s0 : Option Nat} {z : Z} {P : Z → Prop}  (hw : Wz z)   (H : F_X9_tallyArg_60 t0 x2 s0 z P) : J mX9_tallyArg 5 0 0 (nx (QZV P)) 60 [some (vr (some t0)), none, some (vr (x2))] [vr (s0)] (cz z) := by
  unfold F_X9_tallyArg_60 at H
  refine j_iconst (v := Int32.ofInt 3) (dk dt_X9_tallyArg 31 rfl) (by decide) ?_
  refine j_goto 65 (dk dt_X9_tallyArg 32 rfl) (by decide) ?_
  exact j_el (T_X9_tallyArg_65 (by decide) hw   H) (And.intro rfl (And.intro rfl trivial))
def F_X9_tallyArg  (t0 : Nat) (x1 : Int) (x2 : Option Nat) (z : Z) (P : Z → Prop) : Prop :=
  (if x1 = 24 then (∃ a_8, x2 = some a_8 ∧ zK z a_8 = 9 ∧ (if zI z a_8 3 = 0 then F_X9_tallyArg_19 t0 x2 (some t0) 0 z P else F_X9_tallyArg_19 t0 x2 (some t0) 1 z P)) else (if x1 = 19 then F_X9_tallyArg_60 t0 x2 x2 z P else (if x1 = 20 then F_X9_tallyArg_60 t0 x2 x2 z P else F_X9_tallyArg_65 t0 x2 x2 1 z P)))
theorem T_X9_tallyArg  {t0 : Nat} {x1 : Int} {x2 : Option Nat} {z : Z} {P : Z → Prop} (r_x1 : R32 x1) (hw : Wz z)  (H : F_X9_tallyArg t0 x1 x2 z P) : Con mX9_tallyArg 5 0 0 [vr (some t0), ii (x1), vr (x2)] (cz z) (QZV P) := by
  refine con_of rfl (Nat.le_of_ble_eq_true rfl) (by decide) ?_
  show J mX9_tallyArg 5 0 0 _ 0 [some (vr (some t0)), some (ii (x1)), some (vr (x2))] [] (cz z)
  unfold F_X9_tallyArg at H
  refine j_iload_n (dk dt_X9_tallyArg 0 rfl) rfl ?_
  refine j_bipush (v := Int32.ofInt 24) (dk dt_X9_tallyArg 1 rfl) (by decide) ?_
  refine jz_icmp_ne 47 (dk dt_X9_tallyArg 2 rfl) (by decide) r_x1 (by decide) H (fun H => ?_) (fun H => ?_)
  · refine j_aload_n (dk dt_X9_tallyArg 3 rfl) rfl ?_
    refine j_aload_n (dk dt_X9_tallyArg 4 rfl) rfl ?_
    obtain ⟨a_8, e_8, k_8, H⟩ := H
    refine jz_getI (kz := 3) (dk dt_X9_tallyArg 5 rfl) fl_X9_205 rfl rfl e_8 k_8 ?_
    refine jz_if_eq 18 (dk dt_X9_tallyArg 6 rfl) (by decide) (hw.1 _ _) H (fun H => ?_) (fun H => ?_)
    · refine j_iconst (v := Int32.ofInt 0) (dk dt_X9_tallyArg 9 rfl) (by decide) ?_
      exact j_el (T_X9_tallyArg_19 (by decide) hw   H) (And.intro rfl (And.intro rfl trivial))
    · refine j_iconst (v := Int32.ofInt 1) (dk dt_X9_tallyArg 7 rfl) (by decide) ?_
      refine j_goto 19 (dk dt_X9_tallyArg 8 rfl) (by decide) ?_
      exact j_el (T_X9_tallyArg_19 (by decide) hw   H) (And.intro rfl (And.intro rfl trivial))
  · refine j_aload_n (dk dt_X9_tallyArg 24 rfl) rfl ?_
    refine j_iload_n (dk dt_X9_tallyArg 25 rfl) rfl ?_
    refine j_bipush (v := Int32.ofInt 19) (dk dt_X9_tallyArg 26 rfl) (by decide) ?_
    refine jz_icmp_eq 60 (dk dt_X9_tallyArg 27 rfl) (by decide) r_x1 (by decide) H (fun H => ?_) (fun H => ?_)
    · exact j_el (T_X9_tallyArg_60  hw   H) (And.intro rfl (And.intro rfl trivial))
    · refine j_iload_n (dk dt_X9_tallyArg 28 rfl) rfl ?_
      refine j_bipush (v := Int32.ofInt 20) (dk dt_X9_tallyArg 29 rfl) (by decide) ?_
      refine jz_icmp_ne 64 (dk dt_X9_tallyArg 30 rfl) (by decide) r_x1 (by decide) H (fun H => ?_) (fun H => ?_)
      · exact j_el (T_X9_tallyArg_60  hw   H) (And.intro rfl (And.intro rfl trivial))
      · refine j_iconst (v := Int32.ofInt 1) (dk dt_X9_tallyArg 33 rfl) (by decide) ?_
        exact j_el (T_X9_tallyArg_65 (by decide) hw   H) (And.intro rfl (And.intro rfl trivial))
def F_X9_tallyCells_99  (t0 : Nat) (x1 : Int) (x2 : Int) (x3 : Int) (x4 : Int) (z : Z) (P : (Int × Z) ⊕ ((Z) ⊕ ((Option Nat) × Z)) → Prop) : Prop :=
  P (.inl (w32 (x4 + 1), z))
theorem T_X9_tallyCells_99  {t0 : Nat} {x1 : Int} {x2 : Int} {x3 : Int} {x4 : Int} {z : Z} {P : (Int × Z) ⊕ ((Z) ⊕ ((Option Nat) × Z)) → Prop} {post : Option Sv ⊕ String → Hp → Prop} (r_x1 : R32 x1) (r_x2 : R32 x2) (r_x3 : R32 x3) (r_x4 : R32 x4) (hw : Wz z)  (hl : ∀ (x4 : Int) (z : Z), P (.inl (x4, z)) → Wz z → R32 x4 → J mX9_tallyCells 5 0 0 post 37 [some (vr (some t0)), some (ii (x1)), some (ii (x2)), some (ii (x3)), some (ii (x4)), none] [] (cz z)) (he0 : ∀ (z : Z), P (.inr (.inl z)) → Wz z → J mX9_tallyCells 5 0 0 post 105 [some (vr (some t0)), some (ii (x1)), some (ii (x2)), some (ii (x3)), none, none] [] (cz z)) (he1 : ∀ (x5 : Option Nat) (z : Z), P (.inr (.inr (x5, z))) → Wz z → J mX9_tallyCells 5 0 0 post 70 [some (vr (some t0)), none, none, none, none, some (vr (x5))] [] (cz z)) (H : F_X9_tallyCells_99 t0 x1 x2 x3 x4 z P) : J mX9_tallyCells 5 0 0 (post) 99 [some (vr (some t0)), some (ii (x1)), some (ii (x2)), some (ii (x3)), some (ii (x4)), none] [] (cz z) := by
  unfold F_X9_tallyCells_99 at H
  refine jz_iinc (dk dt_X9_tallyCells 50 rfl) rfl ?_
  refine j_goto 37 (dk dt_X9_tallyCells 51 rfl) (by decide) ?_
  exact j_el (hl _ _ H hw (r32_w _)) (And.intro rfl (And.intro rfl (And.intro rfl (And.intro rfl (And.intro rfl trivial)))))
def F_X9_tallyCells_81  (t0 : Nat) (x1 : Int) (x2 : Int) (x3 : Int) (x4 : Int) (x5 : Option Nat) (z : Z) (P : (Int × Z) ⊕ ((Z) ⊕ ((Option Nat) × Z)) → Prop) : Prop :=
  (∃ a_83, x5 = some a_83 ∧ zK z a_83 = 9 ∧ (if zI z a_83 1 = x2 then (zK z t0 = 10 ∧ F_X9_tally t0 (zG z a_83 2) z (fun z_96 => F_X9_tallyCells_99 t0 x1 x2 x3 x4 z_96 P)) else F_X9_tallyCells_99 t0 x1 x2 x3 x4 z P))
theorem T_X9_tallyCells_81  {t0 : Nat} {x1 : Int} {x2 : Int} {x3 : Int} {x4 : Int} {x5 : Option Nat} {z : Z} {P : (Int × Z) ⊕ ((Z) ⊕ ((Option Nat) × Z)) → Prop} {post : Option Sv ⊕ String → Hp → Prop} (r_x1 : R32 x1) (r_x2 : R32 x2) (r_x3 : R32 x3) (r_x4 : R32 x4) (hw : Wz z)  (hl : ∀ (x4 : Int) (z : Z), P (.inl (x4, z)) → Wz z → R32 x4 → J mX9_tallyCells 5 0 0 post 37 [some (vr (some t0)), some (ii (x1)), some (ii (x2)), some (ii (x3)), some (ii (x4)), none] [] (cz z)) (he0 : ∀ (z : Z), P (.inr (.inl z)) → Wz z → J mX9_tallyCells 5 0 0 post 105 [some (vr (some t0)), some (ii (x1)), some (ii (x2)), some (ii (x3)), none, none] [] (cz z)) (he1 : ∀ (x5 : Option Nat) (z : Z), P (.inr (.inr (x5, z))) → Wz z → J mX9_tallyCells 5 0 0 post 70 [some (vr (some t0)), none, none, none, none, some (vr (x5))] [] (cz z)) (H : F_X9_tallyCells_81 t0 x1 x2 x3 x4 x5 z P) : J mX9_tallyCells 5 0 0 (post) 81 [some (vr (some t0)), some (ii (x1)), some (ii (x2)), some (ii (x3)), some (ii (x4)), some (vr (x5))] [] (cz z) := by
  unfold F_X9_tallyCells_81 at H
  refine j_aload (dk dt_X9_tallyCells 42 rfl) rfl ?_
  obtain ⟨a_83, e_83, k_83, H⟩ := H
  refine jz_getI (kz := 1) (dk dt_X9_tallyCells 43 rfl) fl_X9_192 rfl rfl e_83 k_83 ?_
  refine j_iload_n (dk dt_X9_tallyCells 44 rfl) rfl ?_
  refine jz_icmp_ne 99 (dk dt_X9_tallyCells 45 rfl) (by decide) (hw.1 _ _) r_x2 H (fun H => ?_) (fun H => ?_)
  · refine j_aload_n (dk dt_X9_tallyCells 46 rfl) rfl ?_
    refine j_aload (dk dt_X9_tallyCells 47 rfl) rfl ?_
    refine jz_getG (kz := 2) (dk dt_X9_tallyCells 48 rfl) fl_X9_230 rfl rfl e_83 k_83 ?_
    obtain ⟨k_96, H⟩ := H
    refine jz_callV1 (dk dt_X9_tallyCells 49 rfl) vl_X9_339 rfl (T_X9_tally (hw.2.1 _ _) hw H) k_96 rfl (by decide) (Nat.zero_le _) (Nat.zero_le _) (Nat.le_of_ble_eq_true rfl) (fun v_96 h_96 P_96 => ?_)
    obtain ⟨z_96, rfl, rfl, w_96, H⟩ := P_96
    dsimp only [rs]
    exact j_el (T_X9_tallyCells_99 r_x1 r_x2 r_x3 r_x4 w_96  hl he0 he1 H) (And.intro rfl (And.intro rfl (And.intro rfl (And.intro rfl (And.intro rfl trivial)))))
  · exact j_el (T_X9_tallyCells_99 r_x1 r_x2 r_x3 r_x4 hw  hl he0 he1 H) (And.intro rfl (And.intro rfl (And.intro rfl (And.intro rfl (And.intro rfl trivial)))))
def L_X9_tallyCells_37  (t0 : Nat) (x1 : Int) (x2 : Int) (x3 : Int) (x4 : Int) (z : Z) (P : (Int × Z) ⊕ ((Z) ⊕ ((Option Nat) × Z)) → Prop) : Prop :=
  (zK z t0 = 10 ∧ (if zI z t0 15 < x4 then P (.inr (.inl z)) else F_X9_met t0 x3 x4 z (fun x_50 => (∃ a_57, x_50 = some a_57 ∧ zK z a_57 = 9 ∧ (if zI z a_57 1 = 4 then (if x1 = 24 then F_X9_tallyCells_81 t0 x1 x2 x3 x4 x_50 z P else P (.inr (.inr (x_50, z)))) else F_X9_tallyCells_81 t0 x1 x2 x3 x4 x_50 z P)))))
theorem U_X9_tallyCells_37  {t0 : Nat} {x1 : Int} {x2 : Int} {x3 : Int} {x4 : Int} {z : Z} {P : (Int × Z) ⊕ ((Z) ⊕ ((Option Nat) × Z)) → Prop} {post : Option Sv ⊕ String → Hp → Prop} (r_x1 : R32 x1) (r_x2 : R32 x2) (r_x3 : R32 x3) (r_x4 : R32 x4) (hw : Wz z)  (hl : ∀ (x4 : Int) (z : Z), P (.inl (x4, z)) → Wz z → R32 x4 → J mX9_tallyCells 5 0 0 post 37 [some (vr (some t0)), some (ii (x1)), some (ii (x2)), some (ii (x3)), some (ii (x4)), none] [] (cz z)) (he0 : ∀ (z : Z), P (.inr (.inl z)) → Wz z → J mX9_tallyCells 5 0 0 post 105 [some (vr (some t0)), some (ii (x1)), some (ii (x2)), some (ii (x3)), none, none] [] (cz z)) (he1 : ∀ (x5 : Option Nat) (z : Z), P (.inr (.inr (x5, z))) → Wz z → J mX9_tallyCells 5 0 0 post 70 [some (vr (some t0)), none, none, none, none, some (vr (x5))] [] (cz z)) (H : L_X9_tallyCells_37 t0 x1 x2 x3 x4 z P) : J mX9_tallyCells 5 0 0 post 37 [some (vr (some t0)), some (ii (x1)), some (ii (x2)), some (ii (x3)), some (ii (x4)), none] [] (cz z) := by
  unfold L_X9_tallyCells_37 at H
  refine j_iload (dk dt_X9_tallyCells 20 rfl) rfl ?_
  refine j_aload_n (dk dt_X9_tallyCells 21 rfl) rfl ?_
  obtain ⟨k_40, H⟩ := H
  refine jz_getI (kz := 15) (dk dt_X9_tallyCells 22 rfl) fl_X9_124 rfl rfl rfl k_40 ?_
  refine jz_icmp_gt 105 (dk dt_X9_tallyCells 23 rfl) (by decide) r_x4 (hw.1 _ _) H (fun H => ?_) (fun H => ?_)
  · exact j_el (he0 _ H hw) (And.intro rfl (And.intro rfl (And.intro rfl (And.intro rfl trivial))))
  · refine j_aload_n (dk dt_X9_tallyCells 24 rfl) rfl ?_
    refine j_iload_n (dk dt_X9_tallyCells 25 rfl) rfl ?_
    refine j_iload (dk dt_X9_tallyCells 26 rfl) rfl ?_
    refine jz_callV2 (dk dt_X9_tallyCells 27 rfl) vl_X9_201 rfl (T_X9_met r_x3 r_x4 hw H) k_40 rfl (by decide) (Nat.zero_le _) (Nat.zero_le _) (Nat.le_of_ble_eq_true rfl) (fun v_50 h_50 P_50 => ?_)
    obtain ⟨x_50, rfl, rfl, H⟩ := P_50
    dsimp only [rs]
    refine j_astore (dk dt_X9_tallyCells 28 rfl) (by decide) ?_
    refine j_aload (dk dt_X9_tallyCells 29 rfl) rfl ?_
    obtain ⟨a_57, e_57, k_57, H⟩ := H
    refine jz_getI (kz := 1) (dk dt_X9_tallyCells 30 rfl) fl_X9_192 rfl rfl e_57 k_57 ?_
    refine j_iconst (v := Int32.ofInt 4) (dk dt_X9_tallyCells 31 rfl) (by decide) ?_
    refine jz_icmp_ne 81 (dk dt_X9_tallyCells 32 rfl) (by decide) (hw.1 _ _) (by decide) H (fun H => ?_) (fun H => ?_)
    · refine j_iload_n (dk dt_X9_tallyCells 33 rfl) rfl ?_
      refine j_bipush (v := Int32.ofInt 24) (dk dt_X9_tallyCells 34 rfl) (by decide) ?_
      refine jz_icmp_eq 81 (dk dt_X9_tallyCells 35 rfl) (by decide) r_x1 (by decide) H (fun H => ?_) (fun H => ?_)
      · exact j_el (T_X9_tallyCells_81 r_x1 r_x2 r_x3 r_x4 hw  hl he0 he1 H) (And.intro rfl (And.intro rfl (And.intro rfl (And.intro rfl (And.intro rfl (And.intro rfl trivial))))))
      · exact j_el (he1 _ _ H hw) (And.intro rfl (And.intro rfl trivial))
    · exact j_el (T_X9_tallyCells_81 r_x1 r_x2 r_x3 r_x4 hw  hl he0 he1 H) (And.intro rfl (And.intro rfl (And.intro rfl (And.intro rfl (And.intro rfl (And.intro rfl trivial))))))
def F_X9_tallyCells_37  (t0 : Nat) (x1 : Int) (x2 : Int) (x3 : Int) (x4 : Int) (z : Z) (P : (Int × Z) ⊕ ((Z) ⊕ ((Option Nat) × Z)) → Prop) : Prop :=
  lp (S := Int × Z) (E := (Z) ⊕ ((Option Nat) × Z)) (fun q P_ => L_X9_tallyCells_37 t0 x1 x2 x3 q.1 q.2 P_) (x4, z) (fun e => match e with | (.inl z) => P (.inl (w32 (x3 + 1), z)) | (.inr (x5, z)) => P (.inr (.inr (x5, z))))
theorem T_X9_tallyCells_37  {t0 : Nat} {x1 : Int} {x2 : Int} {x3 : Int} {x4 : Int} {z : Z} {P : (Int × Z) ⊕ ((Z) ⊕ ((Option Nat) × Z)) → Prop} {post : Option Sv ⊕ String → Hp → Prop} (r_x1 : R32 x1) (r_x2 : R32 x2) (r_x3 : R32 x3) (r_x4 : R32 x4) (hw : Wz z)  (hl : ∀ (x3 : Int) (z : Z), P (.inl (x3, z)) → Wz z → R32 x3 → J mX9_tallyCells 5 0 0 post 23 [some (vr (some t0)), some (ii (x1)), some (ii (x2)), some (ii (x3)), none, none] [] (cz z)) (he0 : ∀ (z : Z), P (.inr (.inl z)) → Wz z → J mX9_tallyCells 5 0 0 post 111 [none, none, none, none, none, none] [] (cz z)) (he1 : ∀ (x5 : Option Nat) (z : Z), P (.inr (.inr (x5, z))) → Wz z → J mX9_tallyCells 5 0 0 post 70 [some (vr (some t0)), none, none, none, none, some (vr (x5))] [] (cz z)) (H : F_X9_tallyCells_37 t0 x1 x2 x3 x4 z P) : J mX9_tallyCells 5 0 0 (post) 37 [some (vr (some t0)), some (ii (x1)), some (ii (x2)), some (ii (x3)), some (ii (x4)), none] [] (cz z) := by
  unfold F_X9_tallyCells_37 at H
  refine lp_J (G := fun q => Wz (q.2) → R32 (q.1) → J mX9_tallyCells 5 0 0 (post) 37 [some (vr (some t0)), some (ii (x1)), some (ii (x2)), some (ii (x3)), some (ii ((q.1))), none] [] (cz (q.2))) (fun q P_ hl_ he_ Hb => ?_) (x4, z) H hw r_x4
  obtain ⟨x4, z⟩ := q
  intro hw r_x4
  refine U_X9_tallyCells_37 (P := P_) r_x1 r_x2 r_x3 r_x4 hw  (fun x4 z Hp hw r_x4 => hl_ (x4, z) Hp hw r_x4) ?_ ?_ Hb
  · intro z Hp hw
    have H := he_ _ Hp
    refine jz_iinc (dk dt_X9_tallyCells 52 rfl) rfl ?_
    refine j_goto 23 (dk dt_X9_tallyCells 53 rfl) (by decide) ?_
    exact j_el (hl _ _ H hw (r32_w _)) (And.intro rfl (And.intro rfl (And.intro rfl (And.intro rfl trivial))))
  · intro x5 z Hp hw
    have H := he_ _ Hp
    exact j_el (he1 _ _ H hw) (And.intro rfl (And.intro rfl trivial))
def L_X9_tallyCells_23  (t0 : Nat) (x1 : Int) (x2 : Int) (x3 : Int) (z : Z) (P : (Int × Z) ⊕ ((Z) ⊕ ((Option Nat) × Z)) → Prop) : Prop :=
  (zK z t0 = 10 ∧ (if zI z t0 13 < x3 then P (.inr (.inl z)) else F_X9_tallyCells_37 t0 x1 x2 x3 (zI z t0 14) z P))
theorem U_X9_tallyCells_23  {t0 : Nat} {x1 : Int} {x2 : Int} {x3 : Int} {z : Z} {P : (Int × Z) ⊕ ((Z) ⊕ ((Option Nat) × Z)) → Prop} {post : Option Sv ⊕ String → Hp → Prop} (r_x1 : R32 x1) (r_x2 : R32 x2) (r_x3 : R32 x3) (hw : Wz z)  (hl : ∀ (x3 : Int) (z : Z), P (.inl (x3, z)) → Wz z → R32 x3 → J mX9_tallyCells 5 0 0 post 23 [some (vr (some t0)), some (ii (x1)), some (ii (x2)), some (ii (x3)), none, none] [] (cz z)) (he0 : ∀ (z : Z), P (.inr (.inl z)) → Wz z → J mX9_tallyCells 5 0 0 post 111 [none, none, none, none, none, none] [] (cz z)) (he1 : ∀ (x5 : Option Nat) (z : Z), P (.inr (.inr (x5, z))) → Wz z → J mX9_tallyCells 5 0 0 post 70 [some (vr (some t0)), none, none, none, none, some (vr (x5))] [] (cz z)) (H : L_X9_tallyCells_23 t0 x1 x2 x3 z P) : J mX9_tallyCells 5 0 0 post 23 [some (vr (some t0)), some (ii (x1)), some (ii (x2)), some (ii (x3)), none, none] [] (cz z) := by
  unfold L_X9_tallyCells_23 at H
  refine j_iload_n (dk dt_X9_tallyCells 13 rfl) rfl ?_
  refine j_aload_n (dk dt_X9_tallyCells 14 rfl) rfl ?_
  obtain ⟨k_25, H⟩ := H
  refine jz_getI (kz := 13) (dk dt_X9_tallyCells 15 rfl) fl_X9_118 rfl rfl rfl k_25 ?_
  refine jz_icmp_gt 111 (dk dt_X9_tallyCells 16 rfl) (by decide) r_x3 (hw.1 _ _) H (fun H => ?_) (fun H => ?_)
  · exact j_el (he0 _ H hw) trivial
  · refine j_aload_n (dk dt_X9_tallyCells 17 rfl) rfl ?_
    refine jz_getI (kz := 14) (dk dt_X9_tallyCells 18 rfl) fl_X9_121 rfl rfl rfl k_25 ?_
    refine j_istore (dk dt_X9_tallyCells 19 rfl) (by decide) ?_
    exact j_el (T_X9_tallyCells_37 r_x1 r_x2 r_x3 (hw.1 _ _) hw  hl he0 he1 H) (And.intro rfl (And.intro rfl (And.intro rfl (And.intro rfl (And.intro rfl trivial)))))
def F_X9_tallyCells_23  (t0 : Nat) (x1 : Int) (x2 : Int) (x3 : Int) (z : Z) (P : Z → Prop) : Prop :=
  lp (S := Int × Z) (E := (Z) ⊕ ((Option Nat) × Z)) (fun q P_ => L_X9_tallyCells_23 t0 x1 x2 q.1 q.2 P_) (x3, z) (fun e => match e with | (.inl z) => P z | (.inr (x5, z)) => (∃ a_73, x5 = some a_73 ∧ zK z a_73 = 9 ∧ (zK z t0 = 10 ∧ (∀ z_77, z_77 = wI z t0 16 (w32 (zG z a_73 2)) → P z_77))))
theorem T_X9_tallyCells_23  {t0 : Nat} {x1 : Int} {x2 : Int} {x3 : Int} {z : Z} {P : Z → Prop} (r_x1 : R32 x1) (r_x2 : R32 x2) (r_x3 : R32 x3) (hw : Wz z)   (H : F_X9_tallyCells_23 t0 x1 x2 x3 z P) : J mX9_tallyCells 5 0 0 (nx (QZV P)) 23 [some (vr (some t0)), some (ii (x1)), some (ii (x2)), some (ii (x3)), none, none] [] (cz z) := by
  unfold F_X9_tallyCells_23 at H
  refine lp_J (G := fun q => Wz (q.2) → R32 (q.1) → J mX9_tallyCells 5 0 0 (nx (QZV P)) 23 [some (vr (some t0)), some (ii (x1)), some (ii (x2)), some (ii ((q.1))), none, none] [] (cz (q.2))) (fun q P_ hl_ he_ Hb => ?_) (x3, z) H hw r_x3
  obtain ⟨x3, z⟩ := q
  intro hw r_x3
  refine U_X9_tallyCells_23 (P := P_) r_x1 r_x2 r_x3 hw  (fun x3 z Hp hw r_x3 => hl_ (x3, z) Hp hw r_x3) ?_ ?_ Hb
  · intro z Hp hw
    have H := he_ _ Hp
    exact j_return (dk dt_X9_tallyCells 54 rfl) rfl ⟨_, rfl, rfl, hw, H⟩
  · intro x5 z Hp hw
    have H := he_ _ Hp
    refine j_aload_n (dk dt_X9_tallyCells 36 rfl) rfl ?_
    refine j_aload (dk dt_X9_tallyCells 37 rfl) rfl ?_
    obtain ⟨a_73, e_73, k_73, H⟩ := H
    refine jz_getG (kz := 2) (dk dt_X9_tallyCells 38 rfl) fl_X9_230 rfl rfl e_73 k_73 ?_
    refine jz_l2i (dk dt_X9_tallyCells 39 rfl) ?_
    obtain ⟨k_77, H⟩ := H
    refine jz_putI (kz := 16) (dk dt_X9_tallyCells 40 rfl) fl_X9_313 rfl rfl rfl rfl rfl k_77 hw (r32_w _) (fun w_77 => ?_)
    replace H := H _ rfl
    exact j_return (dk dt_X9_tallyCells 41 rfl) rfl ⟨_, rfl, rfl, w_77, H⟩
def F_X9_tallyCells_17  (t0 : Nat) (x1 : Int) (s0 : Int) (z : Z) (P : Z → Prop) : Prop :=
  (zK z t0 = 10 ∧ F_X9_tallyCells_23 t0 x1 s0 (zI z t0 12) z P)
theorem T_X9_tallyCells_17  {t0 : Nat} {x1 : Int} {s0 : Int} {z : Z} {P : Z → Prop} (r_x1 : R32 x1) (r_s0 : R32 s0) (hw : Wz z)   (H : F_X9_tallyCells_17 t0 x1 s0 z P) : J mX9_tallyCells 5 0 0 (nx (QZV P)) 17 [some (vr (some t0)), some (ii (x1)), none, none, none, none] [ii (s0)] (cz z) := by
  unfold F_X9_tallyCells_17 at H
  refine j_istore_n (dk dt_X9_tallyCells 9 rfl) (by decide) ?_
  refine j_aload_n (dk dt_X9_tallyCells 10 rfl) rfl ?_
  obtain ⟨k_19, H⟩ := H
  refine jz_getI (kz := 12) (dk dt_X9_tallyCells 11 rfl) fl_X9_115 rfl rfl rfl k_19 ?_
  refine j_istore_n (dk dt_X9_tallyCells 12 rfl) (by decide) ?_
  exact j_el (T_X9_tallyCells_23 r_x1 r_s0 (hw.1 _ _) hw   H) (And.intro rfl (And.intro rfl (And.intro rfl (And.intro rfl trivial))))
def F_X9_tallyCells_12  (t0 : Nat) (x1 : Int) (z : Z) (P : Z → Prop) : Prop :=
  F_X9_tallyCells_17 t0 x1 3 z P
theorem T_X9_tallyCells_12  {t0 : Nat} {x1 : Int} {z : Z} {P : Z → Prop} (r_x1 : R32 x1) (hw : Wz z)   (H : F_X9_tallyCells_12 t0 x1 z P) : J mX9_tallyCells 5 0 0 (nx (QZV P)) 12 [some (vr (some t0)), some (ii (x1)), none, none, none, none] [] (cz z) := by
  unfold F_X9_tallyCells_12 at H
  refine j_iconst (v := Int32.ofInt 3) (dk dt_X9_tallyCells 6 rfl) (by decide) ?_
  refine j_goto 17 (dk dt_X9_tallyCells 7 rfl) (by decide) ?_
  exact j_el (T_X9_tallyCells_17 r_x1 (by decide) hw   H) (And.intro rfl (And.intro rfl trivial))
def F_X9_tallyCells  (t0 : Nat) (x1 : Int) (z : Z) (P : Z → Prop) : Prop :=
  (if x1 = 19 then F_X9_tallyCells_12 t0 x1 z P else (if x1 = 20 then F_X9_tallyCells_12 t0 x1 z P else F_X9_tallyCells_17 t0 x1 1 z P))
theorem T_X9_tallyCells  {t0 : Nat} {x1 : Int} {z : Z} {P : Z → Prop} (r_x1 : R32 x1) (hw : Wz z)  (H : F_X9_tallyCells t0 x1 z P) : Con mX9_tallyCells 5 0 0 [vr (some t0), ii (x1)] (cz z) (QZV P) := by
  refine con_of rfl (Nat.le_of_ble_eq_true rfl) (by decide) ?_
  show J mX9_tallyCells 5 0 0 _ 0 [some (vr (some t0)), some (ii (x1)), none, none, none, none] [] (cz z)
  unfold F_X9_tallyCells at H
  refine j_iload_n (dk dt_X9_tallyCells 0 rfl) rfl ?_
  refine j_bipush (v := Int32.ofInt 19) (dk dt_X9_tallyCells 1 rfl) (by decide) ?_
  refine jz_icmp_eq 12 (dk dt_X9_tallyCells 2 rfl) (by decide) r_x1 (by decide) H (fun H => ?_) (fun H => ?_)
  · exact j_el (T_X9_tallyCells_12 r_x1 hw   H) (And.intro rfl (And.intro rfl trivial))
  · refine j_iload_n (dk dt_X9_tallyCells 3 rfl) rfl ?_
    refine j_bipush (v := Int32.ofInt 20) (dk dt_X9_tallyCells 4 rfl) (by decide) ?_
    refine jz_icmp_ne 16 (dk dt_X9_tallyCells 5 rfl) (by decide) r_x1 (by decide) H (fun H => ?_) (fun H => ?_)
    · exact j_el (T_X9_tallyCells_12 r_x1 hw   H) (And.intro rfl (And.intro rfl trivial))
    · refine j_iconst (v := Int32.ofInt 1) (dk dt_X9_tallyCells 8 rfl) (by decide) ?_
      exact j_el (T_X9_tallyCells_17 r_x1 (by decide) hw   H) (And.intro rfl (And.intro rfl trivial))
def F_X8_setBounded_33  (z : Z) (P : Z → Prop) : Prop :=
  P z
theorem T_X8_setBounded_33  {z : Z} {P : Z → Prop}  (hw : Wz z)   (H : F_X8_setBounded_33 z P) : J mX8_setBounded 2 0 0 (nx (QZV P)) 33 [none, none, none] [] (cz z) := by
  unfold F_X8_setBounded_33 at H
  exact j_return (dk dt_X8_setBounded 17 rfl) rfl ⟨_, rfl, rfl, hw, H⟩
def F_X8_setBounded_16  (t0 : Nat) (z : Z) (P : Z → Prop) : Prop :=
  (zK z t0 = 9 ∧ F_X8_set t0 4 4 z (fun z_21 => F_X8_setBounded_33 z_21 P))
theorem T_X8_setBounded_16  {t0 : Nat} {z : Z} {P : Z → Prop}  (hw : Wz z)   (H : F_X8_setBounded_16 t0 z P) : J mX8_setBounded 2 0 0 (nx (QZV P)) 16 [some (vr (some t0)), none, none] [] (cz z) := by
  unfold F_X8_setBounded_16 at H
  refine j_aload_n (dk dt_X8_setBounded 8 rfl) rfl ?_
  refine j_iconst (v := Int32.ofInt 4) (dk dt_X8_setBounded 9 rfl) (by decide) ?_
  refine j_ldc2 (v := Int64.ofInt (4)) (dk dt_X8_setBounded 10 rfl) (by exact kl_X8_41) ?_
  obtain ⟨k_21, H⟩ := H
  refine jz_callV2 (dk dt_X8_setBounded 11 rfl) vl_X8_33 rfl (T_X8_set (by decide) (by decide) hw H) k_21 rfl (by decide) (Nat.zero_le _) (Nat.zero_le _) (Nat.le_of_ble_eq_true rfl) (fun v_21 h_21 P_21 => ?_)
  obtain ⟨z_21, rfl, rfl, w_21, H⟩ := P_21
  dsimp only [rs]
  refine j_goto 33 (dk dt_X8_setBounded 12 rfl) (by decide) ?_
  exact j_el (T_X8_setBounded_33  w_21   H) trivial
def F_X8_setBounded  (t0 : Nat) (x1 : Int) (z : Z) (P : Z → Prop) : Prop :=
  (if 1000000000000000 < x1 then F_X8_setBounded_16 t0 z P else (if (-1000000000000000) ≤ x1 then (zK z t0 = 9 ∧ F_X8_set t0 1 x1 z (fun z_30 => F_X8_setBounded_33 z_30 P)) else F_X8_setBounded_16 t0 z P))
theorem T_X8_setBounded  {t0 : Nat} {x1 : Int} {z : Z} {P : Z → Prop} (r_x1 : R64 x1) (hw : Wz z)  (H : F_X8_setBounded t0 x1 z P) : Con mX8_setBounded 2 0 0 [vr (some t0), ll (x1)] (cz z) (QZV P) := by
  refine con_of rfl (Nat.le_of_ble_eq_true rfl) (by decide) ?_
  show J mX8_setBounded 2 0 0 _ 0 [some (vr (some t0)), some (ll (x1)), none] [] (cz z)
  unfold F_X8_setBounded at H
  refine j_lload_n (dk dt_X8_setBounded 0 rfl) rfl ?_
  refine j_ldc2 (v := Int64.ofInt (1000000000000000)) (dk dt_X8_setBounded 1 rfl) (by exact kl_X8_37) ?_
  refine jz_lcmp (dk dt_X8_setBounded 2 rfl) r_x1 (by decide) ?_
  refine jz_lif_gt 16 (dk dt_X8_setBounded 3 rfl) (by decide) H (fun H => ?_) (fun H => ?_)
  · exact j_el (T_X8_setBounded_16  hw   H) (And.intro rfl trivial)
  · refine j_lload_n (dk dt_X8_setBounded 4 rfl) rfl ?_
    refine j_ldc2 (v := Int64.ofInt (-1000000000000000)) (dk dt_X8_setBounded 5 rfl) (by exact kl_X8_39) ?_
    refine jz_lcmp (dk dt_X8_setBounded 6 rfl) r_x1 (by decide) ?_
    refine jz_lif_ge 27 (dk dt_X8_setBounded 7 rfl) (by decide) H (fun H => ?_) (fun H => ?_)
    · refine j_aload_n (dk dt_X8_setBounded 13 rfl) rfl ?_
      refine j_iconst (v := Int32.ofInt 1) (dk dt_X8_setBounded 14 rfl) (by decide) ?_
      refine j_lload_n (dk dt_X8_setBounded 15 rfl) rfl ?_
      obtain ⟨k_30, H⟩ := H
      refine jz_callV2 (dk dt_X8_setBounded 16 rfl) vl_X8_33 rfl (T_X8_set (by decide) r_x1 hw H) k_30 rfl (by decide) (Nat.zero_le _) (Nat.zero_le _) (Nat.le_of_ble_eq_true rfl) (fun v_30 h_30 P_30 => ?_)
      obtain ⟨z_30, rfl, rfl, w_30, H⟩ := P_30
      dsimp only [rs]
      exact j_el (T_X8_setBounded_33  w_30   H) trivial
    · exact j_el (T_X8_setBounded_16  hw   H) (And.intro rfl trivial)
def F_X9_tell_164  (z : Z) (P : Z → Prop) : Prop :=
  P z
theorem T_X9_tell_164  {z : Z} {P : Z → Prop}  (hw : Wz z)   (H : F_X9_tell_164 z P) : J mX9_tell 3 0 0 (nx (QZV P)) 164 [none, none, none] [] (cz z) := by
  unfold F_X9_tell_164 at H
  exact j_return (dk dt_X9_tell 81 rfl) rfl ⟨_, rfl, rfl, hw, H⟩
def F_X9_tell_48  (s0 : Option Nat) (s1 : Int) (z : Z) (P : Z → Prop) : Prop :=
  (∃ a_48, s0 = some a_48 ∧ zK z a_48 = 9 ∧ F_X8_setTruth a_48 s1 z (fun z_48 => F_X9_tell_164 z_48 P))
theorem T_X9_tell_48  {s0 : Option Nat} {s1 : Int} {z : Z} {P : Z → Prop} (r_s1 : R32 s1) (hw : Wz z)   (H : F_X9_tell_48 s0 s1 z P) : J mX9_tell 3 0 0 (nx (QZV P)) 48 [none, none, none] [ii (s1), vr (s0)] (cz z) := by
  unfold F_X9_tell_48 at H
  obtain ⟨a_48, e_48, k_48, H⟩ := H
  refine jz_callV1 (dk dt_X9_tell 25 rfl) vl_X9_260 e_48 (T_X8_setTruth r_s1 hw H) k_48 rfl (by decide) (Nat.zero_le _) (Nat.zero_le _) (Nat.le_of_ble_eq_true rfl) (fun v_48 h_48 P_48 => ?_)
  obtain ⟨z_48, rfl, rfl, w_48, H⟩ := P_48
  dsimp only [rs]
  refine j_goto 164 (dk dt_X9_tell 26 rfl) (by decide) ?_
  exact j_el (T_X9_tell_164  w_48   H) trivial
def F_X9_tell_43  (s0 : Option Nat) (z : Z) (P : Z → Prop) : Prop :=
  F_X9_tell_48 s0 1 z P
theorem T_X9_tell_43  {s0 : Option Nat} {z : Z} {P : Z → Prop}  (hw : Wz z)   (H : F_X9_tell_43 s0 z P) : J mX9_tell 3 0 0 (nx (QZV P)) 43 [none, none, none] [vr (s0)] (cz z) := by
  unfold F_X9_tell_43 at H
  refine j_iconst (v := Int32.ofInt 1) (dk dt_X9_tell 22 rfl) (by decide) ?_
  refine j_goto 48 (dk dt_X9_tell 23 rfl) (by decide) ?_
  exact j_el (T_X9_tell_48 (by decide) hw   H) trivial
def F_X9_tell_82  (s0 : Option Nat) (s1 : Int) (z : Z) (P : Z → Prop) : Prop :=
  (∃ a_82, s0 = some a_82 ∧ zK z a_82 = 9 ∧ F_X8_setTruth a_82 s1 z (fun z_82 => F_X9_tell_164 z_82 P))
theorem T_X9_tell_82  {s0 : Option Nat} {s1 : Int} {z : Z} {P : Z → Prop} (r_s1 : R32 s1) (hw : Wz z)   (H : F_X9_tell_82 s0 s1 z P) : J mX9_tell 3 0 0 (nx (QZV P)) 82 [none, none, none] [ii (s1), vr (s0)] (cz z) := by
  unfold F_X9_tell_82 at H
  obtain ⟨a_82, e_82, k_82, H⟩ := H
  refine jz_callV1 (dk dt_X9_tell 42 rfl) vl_X9_260 e_82 (T_X8_setTruth r_s1 hw H) k_82 rfl (by decide) (Nat.zero_le _) (Nat.zero_le _) (Nat.le_of_ble_eq_true rfl) (fun v_82 h_82 P_82 => ?_)
  obtain ⟨z_82, rfl, rfl, w_82, H⟩ := P_82
  dsimp only [rs]
  refine j_goto 164 (dk dt_X9_tell 43 rfl) (by decide) ?_
  exact j_el (T_X9_tell_164  w_82   H) trivial
def F_X9_tell_81  (s0 : Option Nat) (z : Z) (P : Z → Prop) : Prop :=
  F_X9_tell_82 s0 0 z P
theorem T_X9_tell_81  {s0 : Option Nat} {z : Z} {P : Z → Prop}  (hw : Wz z)   (H : F_X9_tell_81 s0 z P) : J mX9_tell 3 0 0 (nx (QZV P)) 81 [none, none, none] [vr (s0)] (cz z) := by
  unfold F_X9_tell_81 at H
  refine j_iconst (v := Int32.ofInt 0) (dk dt_X9_tell 41 rfl) (by decide) ?_
  exact j_el (T_X9_tell_82 (by decide) hw   H) trivial
def F_X9_tell_161  (s0 : Option Nat) (s1 : Int) (s2 : Int) (z : Z) (P : Z → Prop) : Prop :=
  (∃ a_161, s0 = some a_161 ∧ zK z a_161 = 9 ∧ F_X8_set a_161 s1 s2 z (fun z_161 => F_X9_tell_164 z_161 P))
theorem T_X9_tell_161  {s0 : Option Nat} {s1 : Int} {s2 : Int} {z : Z} {P : Z → Prop} (r_s1 : R32 s1) (r_s2 : R64 s2) (hw : Wz z)   (H : F_X9_tell_161 s0 s1 s2 z P) : J mX9_tell 3 0 0 (nx (QZV P)) 161 [none, none, none] [ll (s2), ii (s1), vr (s0)] (cz z) := by
  unfold F_X9_tell_161 at H
  obtain ⟨a_161, e_161, k_161, H⟩ := H
  refine jz_callV2 (dk dt_X9_tell 80 rfl) vl_X9_145 e_161 (T_X8_set r_s1 r_s2 hw H) k_161 rfl (by decide) (Nat.zero_le _) (Nat.zero_le _) (Nat.le_of_ble_eq_true rfl) (fun v_161 h_161 P_161 => ?_)
  obtain ⟨z_161, rfl, rfl, w_161, H⟩ := P_161
  dsimp only [rs]
  exact j_el (T_X9_tell_164  w_161   H) trivial
def F_X9_tell  (t0 : Nat) (x1 : Int) (x2 : Option Nat) (z : Z) (P : Z → Prop) : Prop :=
  (zK z t0 = 10 ∧ (if zI z t0 16 = 0 then (if x1 = 19 then (if zI z t0 17 = 0 then F_X9_tell_43 x2 z P else (if zG z t0 19 = 0 then F_X9_tell_48 x2 0 z P else F_X9_tell_43 x2 z P)) else (if x1 = 20 then (if zI z t0 17 ≤ 0 then F_X9_tell_81 x2 z P else (if zG z t0 20 = 0 then F_X9_tell_81 x2 z P else F_X9_tell_82 x2 1 z P)) else (if x1 = 21 then (∃ a_99, x2 = some a_99 ∧ zK z a_99 = 9 ∧ F_X8_setBounded a_99 (zG z t0 18) z (fun z_99 => F_X9_tell_164 z_99 P)) else (if x1 = 24 then (∃ a_118, x2 = some a_118 ∧ zK z a_118 = 9 ∧ F_X8_set a_118 1 (zI z t0 17) z (fun z_118 => F_X9_tell_164 z_118 P)) else (if zI z t0 17 = 0 then (∃ a_136, x2 = some a_136 ∧ zK z a_136 = 9 ∧ F_X8_set a_136 4 7 z (fun z_136 => F_X9_tell_164 z_136 P)) else (if x1 = 22 then F_X9_tell_161 x2 1 (zG z t0 19) z P else F_X9_tell_161 x2 1 (zG z t0 20) z P)))))) else (∃ a_14, x2 = some a_14 ∧ zK z a_14 = 9 ∧ F_X8_set a_14 4 (zI z t0 16) z (fun z_14 => F_X9_tell_164 z_14 P))))
theorem T_X9_tell  {t0 : Nat} {x1 : Int} {x2 : Option Nat} {z : Z} {P : Z → Prop} (r_x1 : R32 x1) (hw : Wz z)  (H : F_X9_tell t0 x1 x2 z P) : Con mX9_tell 3 0 0 [vr (some t0), ii (x1), vr (x2)] (cz z) (QZV P) := by
  refine con_of rfl (Nat.le_of_ble_eq_true rfl) (by decide) ?_
  show J mX9_tell 3 0 0 _ 0 [some (vr (some t0)), some (ii (x1)), some (vr (x2))] [] (cz z)
  unfold F_X9_tell at H
  refine j_aload_n (dk dt_X9_tell 0 rfl) rfl ?_
  obtain ⟨k_1, H⟩ := H
  refine jz_getI (kz := 16) (dk dt_X9_tell 1 rfl) fl_X9_313 rfl rfl rfl k_1 ?_
  refine jz_if_eq 20 (dk dt_X9_tell 2 rfl) (by decide) (hw.1 _ _) H (fun H => ?_) (fun H => ?_)
  · refine j_iload_n (dk dt_X9_tell 10 rfl) rfl ?_
    refine j_bipush (v := Int32.ofInt 19) (dk dt_X9_tell 11 rfl) (by decide) ?_
    refine jz_icmp_ne 54 (dk dt_X9_tell 12 rfl) (by decide) r_x1 (by decide) H (fun H => ?_) (fun H => ?_)
    · refine j_aload_n (dk dt_X9_tell 13 rfl) rfl ?_
      refine j_aload_n (dk dt_X9_tell 14 rfl) rfl ?_
      refine jz_getI (kz := 17) (dk dt_X9_tell 15 rfl) fl_X9_316 rfl rfl rfl k_1 ?_
      refine jz_if_eq 43 (dk dt_X9_tell 16 rfl) (by decide) (hw.1 _ _) H (fun H => ?_) (fun H => ?_)
      · exact j_el (T_X9_tell_43  hw   H) trivial
      · refine j_aload_n (dk dt_X9_tell 17 rfl) rfl ?_
        refine jz_getG (kz := 19) (dk dt_X9_tell 18 rfl) fl_X9_322 rfl rfl rfl k_1 ?_
        refine j_lconst (v := Int64.ofInt 0) (dk dt_X9_tell 19 rfl) (by decide) ?_
        refine jz_lcmp (dk dt_X9_tell 20 rfl) (hw.2.1 _ _) (by decide) ?_
        refine jz_lif_eq 47 (dk dt_X9_tell 21 rfl) (by decide) H (fun H => ?_) (fun H => ?_)
        · refine j_iconst (v := Int32.ofInt 0) (dk dt_X9_tell 24 rfl) (by decide) ?_
          exact j_el (T_X9_tell_48 (by decide) hw   H) trivial
        · exact j_el (T_X9_tell_43  hw   H) trivial
    · refine j_iload_n (dk dt_X9_tell 27 rfl) rfl ?_
      refine j_bipush (v := Int32.ofInt 20) (dk dt_X9_tell 28 rfl) (by decide) ?_
      refine jz_icmp_ne 88 (dk dt_X9_tell 29 rfl) (by decide) r_x1 (by decide) H (fun H => ?_) (fun H => ?_)
      · refine j_aload_n (dk dt_X9_tell 30 rfl) rfl ?_
        refine j_aload_n (dk dt_X9_tell 31 rfl) rfl ?_
        refine jz_getI (kz := 17) (dk dt_X9_tell 32 rfl) fl_X9_316 rfl rfl rfl k_1 ?_
        refine jz_if_le 81 (dk dt_X9_tell 33 rfl) (by decide) (hw.1 _ _) H (fun H => ?_) (fun H => ?_)
        · exact j_el (T_X9_tell_81  hw   H) trivial
        · refine j_aload_n (dk dt_X9_tell 34 rfl) rfl ?_
          refine jz_getG (kz := 20) (dk dt_X9_tell 35 rfl) fl_X9_327 rfl rfl rfl k_1 ?_
          refine j_lconst (v := Int64.ofInt 0) (dk dt_X9_tell 36 rfl) (by decide) ?_
          refine jz_lcmp (dk dt_X9_tell 37 rfl) (hw.2.1 _ _) (by decide) ?_
          refine jz_lif_eq 81 (dk dt_X9_tell 38 rfl) (by decide) H (fun H => ?_) (fun H => ?_)
          · exact j_el (T_X9_tell_81  hw   H) trivial
          · refine j_iconst (v := Int32.ofInt 1) (dk dt_X9_tell 39 rfl) (by decide) ?_
            refine j_goto 82 (dk dt_X9_tell 40 rfl) (by decide) ?_
            exact j_el (T_X9_tell_82 (by decide) hw   H) trivial
      · refine j_iload_n (dk dt_X9_tell 44 rfl) rfl ?_
        refine j_bipush (v := Int32.ofInt 21) (dk dt_X9_tell 45 rfl) (by decide) ?_
        refine jz_icmp_ne 105 (dk dt_X9_tell 46 rfl) (by decide) r_x1 (by decide) H (fun H => ?_) (fun H => ?_)
        · refine j_aload_n (dk dt_X9_tell 47 rfl) rfl ?_
          refine j_aload_n (dk dt_X9_tell 48 rfl) rfl ?_
          refine jz_getG (kz := 18) (dk dt_X9_tell 49 rfl) fl_X9_319 rfl rfl rfl k_1 ?_
          obtain ⟨a_99, e_99, k_99, H⟩ := H
          refine jz_callV1 (dk dt_X9_tell 50 rfl) vl_X9_274 e_99 (T_X8_setBounded (hw.2.1 _ _) hw H) k_99 rfl (by decide) (Nat.zero_le _) (Nat.zero_le _) (Nat.le_of_ble_eq_true rfl) (fun v_99 h_99 P_99 => ?_)
          obtain ⟨z_99, rfl, rfl, w_99, H⟩ := P_99
          dsimp only [rs]
          refine j_goto 164 (dk dt_X9_tell 51 rfl) (by decide) ?_
          exact j_el (T_X9_tell_164  w_99   H) trivial
        · refine j_iload_n (dk dt_X9_tell 52 rfl) rfl ?_
          refine j_bipush (v := Int32.ofInt 24) (dk dt_X9_tell 53 rfl) (by decide) ?_
          refine jz_icmp_ne 124 (dk dt_X9_tell 54 rfl) (by decide) r_x1 (by decide) H (fun H => ?_) (fun H => ?_)
          · refine j_aload_n (dk dt_X9_tell 55 rfl) rfl ?_
            refine j_iconst (v := Int32.ofInt 1) (dk dt_X9_tell 56 rfl) (by decide) ?_
            refine j_aload_n (dk dt_X9_tell 57 rfl) rfl ?_
            refine jz_getI (kz := 17) (dk dt_X9_tell 58 rfl) fl_X9_316 rfl rfl rfl k_1 ?_
            refine jz_i2l (dk dt_X9_tell 59 rfl) (hw.1 _ _) ?_
            obtain ⟨a_118, e_118, k_118, H⟩ := H
            refine jz_callV2 (dk dt_X9_tell 60 rfl) vl_X9_145 e_118 (T_X8_set (by decide) (r64_3 (hw.1 _ _)) hw H) k_118 rfl (by decide) (Nat.zero_le _) (Nat.zero_le _) (Nat.le_of_ble_eq_true rfl) (fun v_118 h_118 P_118 => ?_)
            obtain ⟨z_118, rfl, rfl, w_118, H⟩ := P_118
            dsimp only [rs]
            refine j_goto 164 (dk dt_X9_tell 61 rfl) (by decide) ?_
            exact j_el (T_X9_tell_164  w_118   H) trivial
          · refine j_aload_n (dk dt_X9_tell 62 rfl) rfl ?_
            refine jz_getI (kz := 17) (dk dt_X9_tell 63 rfl) fl_X9_316 rfl rfl rfl k_1 ?_
            refine jz_if_ne 142 (dk dt_X9_tell 64 rfl) (by decide) (hw.1 _ _) H (fun H => ?_) (fun H => ?_)
            · refine j_aload_n (dk dt_X9_tell 65 rfl) rfl ?_
              refine j_iconst (v := Int32.ofInt 4) (dk dt_X9_tell 66 rfl) (by decide) ?_
              refine j_ldc2 (v := Int64.ofInt (7)) (dk dt_X9_tell 67 rfl) (by exact kl_X9_311) ?_
              obtain ⟨a_136, e_136, k_136, H⟩ := H
              refine jz_callV2 (dk dt_X9_tell 68 rfl) vl_X9_145 e_136 (T_X8_set (by decide) (by decide) hw H) k_136 rfl (by decide) (Nat.zero_le _) (Nat.zero_le _) (Nat.le_of_ble_eq_true rfl) (fun v_136 h_136 P_136 => ?_)
              obtain ⟨z_136, rfl, rfl, w_136, H⟩ := P_136
              dsimp only [rs]
              refine j_goto 164 (dk dt_X9_tell 69 rfl) (by decide) ?_
              exact j_el (T_X9_tell_164  w_136   H) trivial
            · refine j_aload_n (dk dt_X9_tell 70 rfl) rfl ?_
              refine j_iconst (v := Int32.ofInt 1) (dk dt_X9_tell 71 rfl) (by decide) ?_
              refine j_iload_n (dk dt_X9_tell 72 rfl) rfl ?_
              refine j_bipush (v := Int32.ofInt 22) (dk dt_X9_tell 73 rfl) (by decide) ?_
              refine jz_icmp_ne 157 (dk dt_X9_tell 74 rfl) (by decide) r_x1 (by decide) H (fun H => ?_) (fun H => ?_)
              · refine j_aload_n (dk dt_X9_tell 75 rfl) rfl ?_
                refine jz_getG (kz := 19) (dk dt_X9_tell 76 rfl) fl_X9_322 rfl rfl rfl k_1 ?_
                refine j_goto 161 (dk dt_X9_tell 77 rfl) (by decide) ?_
                exact j_el (T_X9_tell_161 (by decide) (hw.2.1 _ _) hw   H) trivial
              · refine j_aload_n (dk dt_X9_tell 78 rfl) rfl ?_
                refine jz_getG (kz := 20) (dk dt_X9_tell 79 rfl) fl_X9_327 rfl rfl rfl k_1 ?_
                exact j_el (T_X9_tell_161 (by decide) (hw.2.1 _ _) hw   H) trivial
  · refine j_aload_n (dk dt_X9_tell 3 rfl) rfl ?_
    refine j_iconst (v := Int32.ofInt 4) (dk dt_X9_tell 4 rfl) (by decide) ?_
    refine j_aload_n (dk dt_X9_tell 5 rfl) rfl ?_
    refine jz_getI (kz := 16) (dk dt_X9_tell 6 rfl) fl_X9_313 rfl rfl rfl k_1 ?_
    refine jz_i2l (dk dt_X9_tell 7 rfl) (hw.1 _ _) ?_
    obtain ⟨a_14, e_14, k_14, H⟩ := H
    refine jz_callV2 (dk dt_X9_tell 8 rfl) vl_X9_145 e_14 (T_X8_set (by decide) (r64_3 (hw.1 _ _)) hw H) k_14 rfl (by decide) (Nat.zero_le _) (Nat.zero_le _) (Nat.le_of_ble_eq_true rfl) (fun v_14 h_14 P_14 => ?_)
    obtain ⟨z_14, rfl, rfl, w_14, H⟩ := P_14
    dsimp only [rs]
    refine j_goto 164 (dk dt_X9_tell 9 rfl) (by decide) ?_
    exact j_el (T_X9_tell_164  w_14   H) trivial
def F_X9_gather_83  (t0 : Nat) (x1 : Int) (x2 : Int) (x3 : Int) (x4 : Int) (s0 : Option Nat) (s1 : Int) (z : Z) (P : (Int × Z) ⊕ ((Z)) → Prop) : Prop :=
  (∃ a_83, s0 = some a_83 ∧ zK z a_83 = 10 ∧ (∀ z_83, z_83 = wI z a_83 16 s1 → P (.inl (w32 (x4 + 1), z_83))))
theorem T_X9_gather_83  {t0 : Nat} {x1 : Int} {x2 : Int} {x3 : Int} {x4 : Int} {s0 : Option Nat} {s1 : Int} {z : Z} {P : (Int × Z) ⊕ ((Z)) → Prop} {post : Option Sv ⊕ String → Hp → Prop} (r_x1 : R32 x1) (r_x2 : R32 x2) (r_x3 : R32 x3) (r_x4 : R32 x4) (r_s1 : R32 s1) (hw : Wz z)  (hl : ∀ (x4 : Int) (z : Z), P (.inl (x4, z)) → Wz z → R32 x4 → J mX9_gather 6 0 0 post 32 [some (vr (some t0)), some (ii (x1)), some (ii (x2)), some (ii (x3)), some (ii (x4))] [] (cz z)) (he0 : ∀ (z : Z), P (.inr z) → Wz z → J mX9_gather 6 0 0 post 92 [some (vr (some t0)), some (ii (x1)), some (ii (x2)), some (ii (x3)), none] [] (cz z)) (H : F_X9_gather_83 t0 x1 x2 x3 x4 s0 s1 z P) : J mX9_gather 6 0 0 (post) 83 [some (vr (some t0)), some (ii (x1)), some (ii (x2)), some (ii (x3)), some (ii (x4))] [ii (s1), vr (s0)] (cz z) := by
  unfold F_X9_gather_83 at H
  obtain ⟨a_83, e_83, k_83, H⟩ := H
  refine jz_putI (kz := 16) (dk dt_X9_gather 44 rfl) fl_X9_313 rfl rfl rfl rfl e_83 k_83 hw r_s1 (fun w_83 => ?_)
  replace H := H _ rfl
  refine jz_iinc (dk dt_X9_gather 45 rfl) rfl ?_
  refine j_goto 32 (dk dt_X9_gather 46 rfl) (by decide) ?_
  exact j_el (hl _ _ H w_83 (r32_w _)) (And.intro rfl (And.intro rfl (And.intro rfl (And.intro rfl (And.intro rfl trivial)))))
def L_X9_gather_32  (t0 : Nat) (x1 : Int) (x2 : Int) (x3 : Int) (x4 : Int) (z : Z) (P : (Int × Z) ⊕ ((Z)) → Prop) : Prop :=
  (if w32 (x2 + x3) ≤ x4 then P (.inr z) else (if x1 = 24 then P (.inr z) else (zK z t0 = 10 ∧ (if zI z t0 16 = 0 then (∃ a_60, zO z t0 1 = some a_60 ∧ zK z a_60 = 22 ∧ (0 ≤ x4 ∧ x4 < zN z a_60 ∧ (∃ a_61, zO z a_60 x4 = some a_61 ∧ zK z a_61 = 9 ∧ (if zI z a_61 1 = 4 then F_X9_gather_83 t0 x1 x2 x3 x4 (some t0) (w32 (zG z a_61 2)) z P else F_X9_gather_83 t0 x1 x2 x3 x4 (some t0) 0 z P)))) else P (.inr z)))))
theorem U_X9_gather_32  {t0 : Nat} {x1 : Int} {x2 : Int} {x3 : Int} {x4 : Int} {z : Z} {P : (Int × Z) ⊕ ((Z)) → Prop} {post : Option Sv ⊕ String → Hp → Prop} (r_x1 : R32 x1) (r_x2 : R32 x2) (r_x3 : R32 x3) (r_x4 : R32 x4) (hw : Wz z)  (hl : ∀ (x4 : Int) (z : Z), P (.inl (x4, z)) → Wz z → R32 x4 → J mX9_gather 6 0 0 post 32 [some (vr (some t0)), some (ii (x1)), some (ii (x2)), some (ii (x3)), some (ii (x4))] [] (cz z)) (he0 : ∀ (z : Z), P (.inr z) → Wz z → J mX9_gather 6 0 0 post 92 [some (vr (some t0)), some (ii (x1)), some (ii (x2)), some (ii (x3)), none] [] (cz z)) (H : L_X9_gather_32 t0 x1 x2 x3 x4 z P) : J mX9_gather 6 0 0 post 32 [some (vr (some t0)), some (ii (x1)), some (ii (x2)), some (ii (x3)), some (ii (x4))] [] (cz z) := by
  unfold L_X9_gather_32 at H
  refine j_iload (dk dt_X9_gather 17 rfl) rfl ?_
  refine j_iload_n (dk dt_X9_gather 18 rfl) rfl ?_
  refine j_iload_n (dk dt_X9_gather 19 rfl) rfl ?_
  refine jz_iadd (dk dt_X9_gather 20 rfl) ?_
  refine jz_icmp_ge 92 (dk dt_X9_gather 21 rfl) (by decide) r_x4 (r32_w _) H (fun H => ?_) (fun H => ?_)
  · exact j_el (he0 _ H hw) (And.intro rfl (And.intro rfl (And.intro rfl (And.intro rfl trivial))))
  · refine j_iload_n (dk dt_X9_gather 22 rfl) rfl ?_
    refine j_bipush (v := Int32.ofInt 24) (dk dt_X9_gather 23 rfl) (by decide) ?_
    refine jz_icmp_eq 92 (dk dt_X9_gather 24 rfl) (by decide) r_x1 (by decide) H (fun H => ?_) (fun H => ?_)
    · exact j_el (he0 _ H hw) (And.intro rfl (And.intro rfl (And.intro rfl (And.intro rfl trivial))))
    · refine j_aload_n (dk dt_X9_gather 25 rfl) rfl ?_
      obtain ⟨k_47, H⟩ := H
      refine jz_getI (kz := 16) (dk dt_X9_gather 26 rfl) fl_X9_313 rfl rfl rfl k_47 ?_
      refine jz_if_ne 92 (dk dt_X9_gather 27 rfl) (by decide) (hw.1 _ _) H (fun H => ?_) (fun H => ?_)
      · refine j_aload_n (dk dt_X9_gather 28 rfl) rfl ?_
        refine j_aload_n (dk dt_X9_gather 29 rfl) rfl ?_
        refine jz_getO (kz := 1) (dk dt_X9_gather 30 rfl) fl_X9_11 rfl rfl rfl k_47 ?_
        refine j_iload (dk dt_X9_gather 31 rfl) rfl ?_
        obtain ⟨a_60, e_60, k_60, H⟩ := H
        obtain ⟨p_60, q_60, H⟩ := H
        refine jz_aald (t := 8) (dk dt_X9_gather 32 rfl) e_60 k_60 (by decide) (by decide) p_60 q_60 hw ?_
        obtain ⟨a_61, e_61, k_61, H⟩ := H
        refine jz_getI (kz := 1) (dk dt_X9_gather 33 rfl) fl_X9_192 rfl rfl e_61 k_61 ?_
        refine j_iconst (v := Int32.ofInt 4) (dk dt_X9_gather 34 rfl) (by decide) ?_
        refine jz_icmp_ne 82 (dk dt_X9_gather 35 rfl) (by decide) (hw.1 _ _) (by decide) H (fun H => ?_) (fun H => ?_)
        · refine j_aload_n (dk dt_X9_gather 36 rfl) rfl ?_
          refine jz_getO (kz := 1) (dk dt_X9_gather 37 rfl) fl_X9_11 rfl rfl rfl k_47 ?_
          refine j_iload (dk dt_X9_gather 38 rfl) rfl ?_
          refine jz_aald (t := 8) (dk dt_X9_gather 39 rfl) e_60 k_60 (by decide) (by decide) p_60 q_60 hw ?_
          refine jz_getG (kz := 2) (dk dt_X9_gather 40 rfl) fl_X9_230 rfl rfl e_61 k_61 ?_
          refine jz_l2i (dk dt_X9_gather 41 rfl) ?_
          refine j_goto 83 (dk dt_X9_gather 42 rfl) (by decide) ?_
          exact j_el (T_X9_gather_83 r_x1 r_x2 r_x3 r_x4 (r32_w _) hw  hl he0 H) (And.intro rfl (And.intro rfl (And.intro rfl (And.intro rfl (And.intro rfl trivial)))))
        · refine j_iconst (v := Int32.ofInt 0) (dk dt_X9_gather 43 rfl) (by decide) ?_
          exact j_el (T_X9_gather_83 r_x1 r_x2 r_x3 r_x4 (by decide) hw  hl he0 H) (And.intro rfl (And.intro rfl (And.intro rfl (And.intro rfl (And.intro rfl trivial)))))
      · exact j_el (he0 _ H hw) (And.intro rfl (And.intro rfl (And.intro rfl (And.intro rfl trivial))))
def F_X9_gather_167  (t0 : Nat) (x1 : Int) (x2 : Int) (x3 : Int) (x4 : Int) (z : Z) (P : (Int × Z) ⊕ ((Z)) → Prop) : Prop :=
  P (.inl (w32 (x4 + 1), z))
theorem T_X9_gather_167  {t0 : Nat} {x1 : Int} {x2 : Int} {x3 : Int} {x4 : Int} {z : Z} {P : (Int × Z) ⊕ ((Z)) → Prop} {post : Option Sv ⊕ String → Hp → Prop} (r_x1 : R32 x1) (r_x2 : R32 x2) (r_x3 : R32 x3) (r_x4 : R32 x4) (hw : Wz z)  (hl : ∀ (x4 : Int) (z : Z), P (.inl (x4, z)) → Wz z → R32 x4 → J mX9_gather 6 0 0 post 95 [some (vr (some t0)), some (ii (x1)), some (ii (x2)), some (ii (x3)), some (ii (x4))] [] (cz z)) (he0 : ∀ (z : Z), P (.inr z) → Wz z → J mX9_gather 6 0 0 post 173 [some (vr (some t0)), some (ii (x1)), some (ii (x2)), none, none] [] (cz z)) (H : F_X9_gather_167 t0 x1 x2 x3 x4 z P) : J mX9_gather 6 0 0 (post) 167 [some (vr (some t0)), some (ii (x1)), some (ii (x2)), some (ii (x3)), some (ii (x4))] [] (cz z) := by
  unfold F_X9_gather_167 at H
  refine jz_iinc (dk dt_X9_gather 86 rfl) rfl ?_
  refine j_goto 95 (dk dt_X9_gather 87 rfl) (by decide) ?_
  exact j_el (hl _ _ H hw (r32_w _)) (And.intro rfl (And.intro rfl (And.intro rfl (And.intro rfl (And.intro rfl trivial)))))
def L_X9_gather_95  (t0 : Nat) (x1 : Int) (x2 : Int) (x3 : Int) (x4 : Int) (z : Z) (P : (Int × Z) ⊕ ((Z)) → Prop) : Prop :=
  (if w32 (x2 + x3) ≤ x4 then P (.inr z) else (zK z t0 = 10 ∧ (if zI z t0 16 = 0 then (∃ a_116, zO z t0 1 = some a_116 ∧ zK z a_116 = 22 ∧ (0 ≤ x4 ∧ x4 < zN z a_116 ∧ (∃ a_117, zO z a_116 x4 = some a_117 ∧ zK z a_117 = 9 ∧ (if zI z a_117 1 = 6 then F_X9_findsPlace t0 (zO z a_116 x4) z (fun x_148 z_148 => (if x_148 = 0 then (zK z_148 t0 = 10 ∧ (∀ z_164, z_164 = wI z_148 t0 16 1 → F_X9_gather_167 t0 x1 x2 x3 x4 z_164 P)) else (zK z_148 t0 = 10 ∧ F_X9_tallyCells t0 x1 z_148 (fun z_156 => F_X9_gather_167 t0 x1 x2 x3 x4 z_156 P)))) else F_X9_tallyArg t0 x1 (zO z a_116 x4) z (fun z_134 => F_X9_gather_167 t0 x1 x2 x3 x4 z_134 P))))) else P (.inr z))))
theorem U_X9_gather_95  {t0 : Nat} {x1 : Int} {x2 : Int} {x3 : Int} {x4 : Int} {z : Z} {P : (Int × Z) ⊕ ((Z)) → Prop} {post : Option Sv ⊕ String → Hp → Prop} (r_x1 : R32 x1) (r_x2 : R32 x2) (r_x3 : R32 x3) (r_x4 : R32 x4) (hw : Wz z)  (hl : ∀ (x4 : Int) (z : Z), P (.inl (x4, z)) → Wz z → R32 x4 → J mX9_gather 6 0 0 post 95 [some (vr (some t0)), some (ii (x1)), some (ii (x2)), some (ii (x3)), some (ii (x4))] [] (cz z)) (he0 : ∀ (z : Z), P (.inr z) → Wz z → J mX9_gather 6 0 0 post 173 [some (vr (some t0)), some (ii (x1)), some (ii (x2)), none, none] [] (cz z)) (H : L_X9_gather_95 t0 x1 x2 x3 x4 z P) : J mX9_gather 6 0 0 post 95 [some (vr (some t0)), some (ii (x1)), some (ii (x2)), some (ii (x3)), some (ii (x4))] [] (cz z) := by
  unfold L_X9_gather_95 at H
  refine j_iload (dk dt_X9_gather 49 rfl) rfl ?_
  refine j_iload_n (dk dt_X9_gather 50 rfl) rfl ?_
  refine j_iload_n (dk dt_X9_gather 51 rfl) rfl ?_
  refine jz_iadd (dk dt_X9_gather 52 rfl) ?_
  refine jz_icmp_ge 173 (dk dt_X9_gather 53 rfl) (by decide) r_x4 (r32_w _) H (fun H => ?_) (fun H => ?_)
  · exact j_el (he0 _ H hw) (And.intro rfl (And.intro rfl (And.intro rfl trivial)))
  · refine j_aload_n (dk dt_X9_gather 54 rfl) rfl ?_
    obtain ⟨k_104, H⟩ := H
    refine jz_getI (kz := 16) (dk dt_X9_gather 55 rfl) fl_X9_313 rfl rfl rfl k_104 ?_
    refine jz_if_ne 173 (dk dt_X9_gather 56 rfl) (by decide) (hw.1 _ _) H (fun H => ?_) (fun H => ?_)
    · refine j_aload_n (dk dt_X9_gather 57 rfl) rfl ?_
      refine jz_getO (kz := 1) (dk dt_X9_gather 58 rfl) fl_X9_11 rfl rfl rfl k_104 ?_
      refine j_iload (dk dt_X9_gather 59 rfl) rfl ?_
      obtain ⟨a_116, e_116, k_116, H⟩ := H
      obtain ⟨p_116, q_116, H⟩ := H
      refine jz_aald (t := 8) (dk dt_X9_gather 60 rfl) e_116 k_116 (by decide) (by decide) p_116 q_116 hw ?_
      obtain ⟨a_117, e_117, k_117, H⟩ := H
      refine jz_getI (kz := 1) (dk dt_X9_gather 61 rfl) fl_X9_192 rfl rfl e_117 k_117 ?_
      refine j_bipush (v := Int32.ofInt 6) (dk dt_X9_gather 62 rfl) (by decide) ?_
      refine jz_icmp_eq 140 (dk dt_X9_gather 63 rfl) (by decide) (hw.1 _ _) (by decide) H (fun H => ?_) (fun H => ?_)
      · refine j_aload_n (dk dt_X9_gather 72 rfl) rfl ?_
        refine j_aload_n (dk dt_X9_gather 73 rfl) rfl ?_
        refine jz_getO (kz := 1) (dk dt_X9_gather 74 rfl) fl_X9_11 rfl rfl rfl k_104 ?_
        refine j_iload (dk dt_X9_gather 75 rfl) rfl ?_
        refine jz_aald (t := 8) (dk dt_X9_gather 76 rfl) e_116 k_116 (by decide) (by decide) p_116 q_116 hw ?_
        refine jz_callV1 (dk dt_X9_gather 77 rfl) vl_X9_302 rfl (T_X9_findsPlace hw H) k_104 rfl (by decide) (Nat.zero_le _) (Nat.zero_le _) (Nat.le_of_ble_eq_true rfl) (fun v_148 h_148 P_148 => ?_)
        obtain ⟨x_148, z_148, rfl, r_148, rfl, w_148, H⟩ := P_148
        dsimp only [rs]
        refine jz_if_eq 162 (dk dt_X9_gather 78 rfl) (by decide) r_148 H (fun H => ?_) (fun H => ?_)
        · refine j_aload_n (dk dt_X9_gather 83 rfl) rfl ?_
          refine j_iconst (v := Int32.ofInt 1) (dk dt_X9_gather 84 rfl) (by decide) ?_
          obtain ⟨k_164, H⟩ := H
          refine jz_putI (kz := 16) (dk dt_X9_gather 85 rfl) fl_X9_313 rfl rfl rfl rfl rfl k_164 w_148 (by decide) (fun w_164 => ?_)
          replace H := H _ rfl
          exact j_el (T_X9_gather_167 r_x1 r_x2 r_x3 r_x4 w_164  hl he0 H) (And.intro rfl (And.intro rfl (And.intro rfl (And.intro rfl (And.intro rfl trivial)))))
        · refine j_aload_n (dk dt_X9_gather 79 rfl) rfl ?_
          refine j_iload_n (dk dt_X9_gather 80 rfl) rfl ?_
          obtain ⟨k_156, H⟩ := H
          refine jz_callV1 (dk dt_X9_gather 81 rfl) vl_X9_333 rfl (T_X9_tallyCells r_x1 w_148 H) k_156 rfl (by decide) (Nat.zero_le _) (Nat.zero_le _) (Nat.le_of_ble_eq_true rfl) (fun v_156 h_156 P_156 => ?_)
          obtain ⟨z_156, rfl, rfl, w_156, H⟩ := P_156
          dsimp only [rs]
          refine j_goto 167 (dk dt_X9_gather 82 rfl) (by decide) ?_
          exact j_el (T_X9_gather_167 r_x1 r_x2 r_x3 r_x4 w_156  hl he0 H) (And.intro rfl (And.intro rfl (And.intro rfl (And.intro rfl (And.intro rfl trivial)))))
      · refine j_aload_n (dk dt_X9_gather 64 rfl) rfl ?_
        refine j_iload_n (dk dt_X9_gather 65 rfl) rfl ?_
        refine j_aload_n (dk dt_X9_gather 66 rfl) rfl ?_
        refine jz_getO (kz := 1) (dk dt_X9_gather 67 rfl) fl_X9_11 rfl rfl rfl k_104 ?_
        refine j_iload (dk dt_X9_gather 68 rfl) rfl ?_
        refine jz_aald (t := 8) (dk dt_X9_gather 69 rfl) e_116 k_116 (by decide) (by decide) p_116 q_116 hw ?_
        refine jz_callV2 (dk dt_X9_gather 70 rfl) vl_X9_330 rfl (T_X9_tallyArg r_x1 hw H) k_104 rfl (by decide) (Nat.zero_le _) (Nat.zero_le _) (Nat.le_of_ble_eq_true rfl) (fun v_134 h_134 P_134 => ?_)
        obtain ⟨z_134, rfl, rfl, w_134, H⟩ := P_134
        dsimp only [rs]
        refine j_goto 167 (dk dt_X9_gather 71 rfl) (by decide) ?_
        exact j_el (T_X9_gather_167 r_x1 r_x2 r_x3 r_x4 w_134  hl he0 H) (And.intro rfl (And.intro rfl (And.intro rfl (And.intro rfl (And.intro rfl trivial)))))
    · exact j_el (he0 _ H hw) (And.intro rfl (And.intro rfl (And.intro rfl trivial)))
def F_X9_gather_173  (t0 : Nat) (x1 : Int) (x2 : Int) (z : Z) (P : Z → Prop) : Prop :=
  (zK z t0 = 10 ∧ (∃ a_180, zO z t0 1 = some a_180 ∧ zK z a_180 = 22 ∧ (0 ≤ x2 ∧ x2 < zN z a_180 ∧ F_X9_tell t0 x1 (zO z a_180 x2) z (fun z_181 => P z_181))))
theorem T_X9_gather_173  {t0 : Nat} {x1 : Int} {x2 : Int} {z : Z} {P : Z → Prop} (r_x1 : R32 x1) (r_x2 : R32 x2) (hw : Wz z)   (H : F_X9_gather_173 t0 x1 x2 z P) : J mX9_gather 6 0 0 (nx (QZV P)) 173 [some (vr (some t0)), some (ii (x1)), some (ii (x2)), none, none] [] (cz z) := by
  unfold F_X9_gather_173 at H
  refine j_aload_n (dk dt_X9_gather 88 rfl) rfl ?_
  refine j_iload_n (dk dt_X9_gather 89 rfl) rfl ?_
  refine j_aload_n (dk dt_X9_gather 90 rfl) rfl ?_
  obtain ⟨k_176, H⟩ := H
  refine jz_getO (kz := 1) (dk dt_X9_gather 91 rfl) fl_X9_11 rfl rfl rfl k_176 ?_
  refine j_iload_n (dk dt_X9_gather 92 rfl) rfl ?_
  obtain ⟨a_180, e_180, k_180, H⟩ := H
  obtain ⟨p_180, q_180, H⟩ := H
  refine jz_aald (t := 8) (dk dt_X9_gather 93 rfl) e_180 k_180 (by decide) (by decide) p_180 q_180 hw ?_
  refine jz_callV2 (dk dt_X9_gather 94 rfl) vl_X9_336 rfl (T_X9_tell r_x1 hw H) k_176 rfl (by decide) (Nat.zero_le _) (Nat.zero_le _) (Nat.le_of_ble_eq_true rfl) (fun v_181 h_181 P_181 => ?_)
  obtain ⟨z_181, rfl, rfl, w_181, H⟩ := P_181
  dsimp only [rs]
  exact j_return (dk dt_X9_gather 95 rfl) rfl ⟨_, rfl, rfl, w_181, H⟩
def F_X9_gather_95  (t0 : Nat) (x1 : Int) (x2 : Int) (x3 : Int) (x4 : Int) (z : Z) (P : Z → Prop) : Prop :=
  lp (S := Int × Z) (E := (Z)) (fun q P_ => L_X9_gather_95 t0 x1 x2 x3 q.1 q.2 P_) (x4, z) (fun (z : Z) => F_X9_gather_173 t0 x1 x2 z P)
theorem T_X9_gather_95  {t0 : Nat} {x1 : Int} {x2 : Int} {x3 : Int} {x4 : Int} {z : Z} {P : Z → Prop} (r_x1 : R32 x1) (r_x2 : R32 x2) (r_x3 : R32 x3) (r_x4 : R32 x4) (hw : Wz z)   (H : F_X9_gather_95 t0 x1 x2 x3 x4 z P) : J mX9_gather 6 0 0 (nx (QZV P)) 95 [some (vr (some t0)), some (ii (x1)), some (ii (x2)), some (ii (x3)), some (ii (x4))] [] (cz z) := by
  unfold F_X9_gather_95 at H
  refine lp_J (G := fun q => Wz (q.2) → R32 (q.1) → J mX9_gather 6 0 0 (nx (QZV P)) 95 [some (vr (some t0)), some (ii (x1)), some (ii (x2)), some (ii (x3)), some (ii ((q.1)))] [] (cz (q.2))) (fun q P_ hl_ he_ Hb => ?_) (x4, z) H hw r_x4
  obtain ⟨x4, z⟩ := q
  intro hw r_x4
  refine U_X9_gather_95 (P := P_) r_x1 r_x2 r_x3 r_x4 hw  (fun x4 z Hp hw r_x4 => hl_ (x4, z) Hp hw r_x4) ?_ Hb
  · intro z Hp hw
    have H := he_ _ Hp
    exact j_el (T_X9_gather_173 r_x1 r_x2 hw   H) (And.intro rfl (And.intro rfl (And.intro rfl trivial)))
def F_X9_gather_92  (t0 : Nat) (x1 : Int) (x2 : Int) (x3 : Int) (z : Z) (P : Z → Prop) : Prop :=
  F_X9_gather_95 t0 x1 x2 x3 x2 z P
theorem T_X9_gather_92  {t0 : Nat} {x1 : Int} {x2 : Int} {x3 : Int} {z : Z} {P : Z → Prop} (r_x1 : R32 x1) (r_x2 : R32 x2) (r_x3 : R32 x3) (hw : Wz z)   (H : F_X9_gather_92 t0 x1 x2 x3 z P) : J mX9_gather 6 0 0 (nx (QZV P)) 92 [some (vr (some t0)), some (ii (x1)), some (ii (x2)), some (ii (x3)), none] [] (cz z) := by
  unfold F_X9_gather_92 at H
  refine j_iload_n (dk dt_X9_gather 47 rfl) rfl ?_
  refine j_istore (dk dt_X9_gather 48 rfl) (by decide) ?_
  exact j_el (T_X9_gather_95 r_x1 r_x2 r_x3 r_x2 hw   H) (And.intro rfl (And.intro rfl (And.intro rfl (And.intro rfl (And.intro rfl trivial)))))
def F_X9_gather_32  (t0 : Nat) (x1 : Int) (x2 : Int) (x3 : Int) (x4 : Int) (z : Z) (P : Z → Prop) : Prop :=
  lp (S := Int × Z) (E := (Z)) (fun q P_ => L_X9_gather_32 t0 x1 x2 x3 q.1 q.2 P_) (x4, z) (fun (z : Z) => F_X9_gather_92 t0 x1 x2 x3 z P)
theorem T_X9_gather_32  {t0 : Nat} {x1 : Int} {x2 : Int} {x3 : Int} {x4 : Int} {z : Z} {P : Z → Prop} (r_x1 : R32 x1) (r_x2 : R32 x2) (r_x3 : R32 x3) (r_x4 : R32 x4) (hw : Wz z)   (H : F_X9_gather_32 t0 x1 x2 x3 x4 z P) : J mX9_gather 6 0 0 (nx (QZV P)) 32 [some (vr (some t0)), some (ii (x1)), some (ii (x2)), some (ii (x3)), some (ii (x4))] [] (cz z) := by
  unfold F_X9_gather_32 at H
  refine lp_J (G := fun q => Wz (q.2) → R32 (q.1) → J mX9_gather 6 0 0 (nx (QZV P)) 32 [some (vr (some t0)), some (ii (x1)), some (ii (x2)), some (ii (x3)), some (ii ((q.1)))] [] (cz (q.2))) (fun q P_ hl_ he_ Hb => ?_) (x4, z) H hw r_x4
  obtain ⟨x4, z⟩ := q
  intro hw r_x4
  refine U_X9_gather_32 (P := P_) r_x1 r_x2 r_x3 r_x4 hw  (fun x4 z Hp hw r_x4 => hl_ (x4, z) Hp hw r_x4) ?_ Hb
  · intro z Hp hw
    have H := he_ _ Hp
    exact j_el (T_X9_gather_92 r_x1 r_x2 r_x3 hw   H) (And.intro rfl (And.intro rfl (And.intro rfl (And.intro rfl trivial))))
def F_X9_gather  (t0 : Nat) (x1 : Int) (x2 : Int) (x3 : Int) (z : Z) (P : Z → Prop) : Prop :=
  (zK z t0 = 10 ∧ (∀ z_2, z_2 = wI z t0 16 0 → (∀ z_7, z_7 = wI z_2 t0 17 0 → (∀ z_12, z_12 = wG z_7 t0 18 0 → (∀ z_19, z_19 = wG z_12 t0 19 1000000000000000 → (∀ z_26, z_26 = wG z_19 t0 20 (-1000000000000000) → F_X9_gather_32 t0 x1 x2 x3 x2 z_26 P))))))
theorem T_X9_gather  {t0 : Nat} {x1 : Int} {x2 : Int} {x3 : Int} {z : Z} {P : Z → Prop} (r_x1 : R32 x1) (r_x2 : R32 x2) (r_x3 : R32 x3) (hw : Wz z)  (H : F_X9_gather t0 x1 x2 x3 z P) : Con mX9_gather 6 0 0 [vr (some t0), ii (x1), ii (x2), ii (x3)] (cz z) (QZV P) := by
  refine con_of rfl (Nat.le_of_ble_eq_true rfl) (by decide) ?_
  show J mX9_gather 6 0 0 _ 0 [some (vr (some t0)), some (ii (x1)), some (ii (x2)), some (ii (x3)), none] [] (cz z)
  unfold F_X9_gather at H
  refine j_aload_n (dk dt_X9_gather 0 rfl) rfl ?_
  refine j_iconst (v := Int32.ofInt 0) (dk dt_X9_gather 1 rfl) (by decide) ?_
  obtain ⟨k_2, H⟩ := H
  refine jz_putI (kz := 16) (dk dt_X9_gather 2 rfl) fl_X9_313 rfl rfl rfl rfl rfl k_2 hw (by decide) (fun w_2 => ?_)
  replace H := H _ rfl
  refine j_aload_n (dk dt_X9_gather 3 rfl) rfl ?_
  refine j_iconst (v := Int32.ofInt 0) (dk dt_X9_gather 4 rfl) (by decide) ?_
  refine jz_putI (kz := 17) (dk dt_X9_gather 5 rfl) fl_X9_316 rfl rfl rfl rfl rfl k_2 w_2 (by decide) (fun w_7 => ?_)
  replace H := H _ rfl
  refine j_aload_n (dk dt_X9_gather 6 rfl) rfl ?_
  refine j_lconst (v := Int64.ofInt 0) (dk dt_X9_gather 7 rfl) (by decide) ?_
  refine jz_putG (kz := 18) (dk dt_X9_gather 8 rfl) fl_X9_319 rfl rfl rfl rfl rfl k_2 w_7 (by decide) (fun w_12 => ?_)
  replace H := H _ rfl
  refine j_aload_n (dk dt_X9_gather 9 rfl) rfl ?_
  refine j_ldc2 (v := Int64.ofInt (1000000000000000)) (dk dt_X9_gather 10 rfl) (by exact kl_X9_282) ?_
  refine jz_putG (kz := 19) (dk dt_X9_gather 11 rfl) fl_X9_322 rfl rfl rfl rfl rfl k_2 w_12 (by decide) (fun w_19 => ?_)
  replace H := H _ rfl
  refine j_aload_n (dk dt_X9_gather 12 rfl) rfl ?_
  refine j_ldc2 (v := Int64.ofInt (-1000000000000000)) (dk dt_X9_gather 13 rfl) (by exact kl_X9_325) ?_
  refine jz_putG (kz := 20) (dk dt_X9_gather 14 rfl) fl_X9_327 rfl rfl rfl rfl rfl k_2 w_19 (by decide) (fun w_26 => ?_)
  replace H := H _ rfl
  refine j_iload_n (dk dt_X9_gather 15 rfl) rfl ?_
  refine j_istore (dk dt_X9_gather 16 rfl) (by decide) ?_
  exact j_el (T_X9_gather_32 r_x1 r_x2 r_x3 r_x2 w_26   H) (And.intro rfl (And.intro rfl (And.intro rfl (And.intro rfl (And.intro rfl trivial)))))
def F_X9_negate_49  (z : Z) (P : Z → Prop) : Prop :=
  P z
theorem T_X9_negate_49  {z : Z} {P : Z → Prop}  (hw : Wz z)   (H : F_X9_negate_49 z P) : J mX9_negate 2 0 0 (nx (QZV P)) 49 [none, none] [] (cz z) := by
  unfold F_X9_negate_49 at H
  exact j_return (dk dt_X9_negate 25 rfl) rfl ⟨_, rfl, rfl, hw, H⟩
def F_X9_negate  (t0 : Nat) (x1 : Option Nat) (z : Z) (P : Z → Prop) : Prop :=
  (∃ a_1, x1 = some a_1 ∧ zK z a_1 = 9 ∧ (if zI z a_1 1 = 4 then F_X8_set a_1 4 (zG z a_1 2) z (fun z_14 => F_X9_negate_49 z_14 P) else F_X8_servesAs a_1 1 z (fun x_22 => (if x_22 = 0 then F_X8_set a_1 4 3 z (fun z_46 => F_X9_negate_49 z_46 P) else F_X8_set a_1 1 (w64 (-(zG z a_1 2))) z (fun z_35 => F_X9_negate_49 z_35 P)))))
theorem T_X9_negate  {t0 : Nat} {x1 : Option Nat} {z : Z} {P : Z → Prop}  (hw : Wz z)  (H : F_X9_negate t0 x1 z P) : Con mX9_negate 2 0 0 [vr (some t0), vr (x1)] (cz z) (QZV P) := by
  refine con_of rfl (Nat.le_of_ble_eq_true rfl) (by decide) ?_
  show J mX9_negate 2 0 0 _ 0 [some (vr (some t0)), some (vr (x1))] [] (cz z)
  unfold F_X9_negate at H
  refine j_aload_n (dk dt_X9_negate 0 rfl) rfl ?_
  obtain ⟨a_1, e_1, k_1, H⟩ := H
  refine jz_getI (kz := 1) (dk dt_X9_negate 1 rfl) fl_X9_192 rfl rfl e_1 k_1 ?_
  refine j_iconst (v := Int32.ofInt 4) (dk dt_X9_negate 2 rfl) (by decide) ?_
  refine jz_icmp_ne 20 (dk dt_X9_negate 3 rfl) (by decide) (hw.1 _ _) (by decide) H (fun H => ?_) (fun H => ?_)
  · refine j_aload_n (dk dt_X9_negate 4 rfl) rfl ?_
    refine j_iconst (v := Int32.ofInt 4) (dk dt_X9_negate 5 rfl) (by decide) ?_
    refine j_aload_n (dk dt_X9_negate 6 rfl) rfl ?_
    refine jz_getG (kz := 2) (dk dt_X9_negate 7 rfl) fl_X9_230 rfl rfl e_1 k_1 ?_
    refine jz_callV2 (dk dt_X9_negate 8 rfl) vl_X9_145 e_1 (T_X8_set (by decide) (hw.2.1 _ _) hw H) k_1 rfl (by decide) (Nat.zero_le _) (Nat.zero_le _) (Nat.le_of_ble_eq_true rfl) (fun v_14 h_14 P_14 => ?_)
    obtain ⟨z_14, rfl, rfl, w_14, H⟩ := P_14
    dsimp only [rs]
    refine j_goto 49 (dk dt_X9_negate 9 rfl) (by decide) ?_
    exact j_el (T_X9_negate_49  w_14   H) trivial
  · refine j_aload_n (dk dt_X9_negate 10 rfl) rfl ?_
    refine j_iconst (v := Int32.ofInt 1) (dk dt_X9_negate 11 rfl) (by decide) ?_
    refine jz_callV1 (dk dt_X9_negate 12 rfl) vl_X9_237 e_1 (T_X8_servesAs (by decide) hw H) k_1 rfl (by decide) (Nat.zero_le _) (Nat.zero_le _) (Nat.le_of_ble_eq_true rfl) (fun v_22 h_22 P_22 => ?_)
    obtain ⟨x_22, rfl, r_22, rfl, H⟩ := P_22
    dsimp only [rs]
    refine jz_if_eq 41 (dk dt_X9_negate 13 rfl) (by decide) r_22 H (fun H => ?_) (fun H => ?_)
    · refine j_aload_n (dk dt_X9_negate 21 rfl) rfl ?_
      refine j_iconst (v := Int32.ofInt 4) (dk dt_X9_negate 22 rfl) (by decide) ?_
      refine j_ldc2 (v := Int64.ofInt (3)) (dk dt_X9_negate 23 rfl) (by exact kl_X9_240) ?_
      refine jz_callV2 (dk dt_X9_negate 24 rfl) vl_X9_145 e_1 (T_X8_set (by decide) (by decide) hw H) k_1 rfl (by decide) (Nat.zero_le _) (Nat.zero_le _) (Nat.le_of_ble_eq_true rfl) (fun v_46 h_46 P_46 => ?_)
      obtain ⟨z_46, rfl, rfl, w_46, H⟩ := P_46
      dsimp only [rs]
      exact j_el (T_X9_negate_49  w_46   H) trivial
    · refine j_aload_n (dk dt_X9_negate 14 rfl) rfl ?_
      refine j_iconst (v := Int32.ofInt 1) (dk dt_X9_negate 15 rfl) (by decide) ?_
      refine j_aload_n (dk dt_X9_negate 16 rfl) rfl ?_
      refine jz_getG (kz := 2) (dk dt_X9_negate 17 rfl) fl_X9_230 rfl rfl e_1 k_1 ?_
      refine jz_lneg (dk dt_X9_negate 18 rfl) ?_
      refine jz_callV2 (dk dt_X9_negate 19 rfl) vl_X9_145 e_1 (T_X8_set (by decide) (r64_w _) hw H) k_1 rfl (by decide) (Nat.zero_le _) (Nat.zero_le _) (Nat.le_of_ble_eq_true rfl) (fun v_35 h_35 P_35 => ?_)
      obtain ⟨z_35, rfl, rfl, w_35, H⟩ := P_35
      dsimp only [rs]
      refine j_goto 49 (dk dt_X9_negate 20 rfl) (by decide) ?_
      exact j_el (T_X9_negate_49  w_35   H) trivial
