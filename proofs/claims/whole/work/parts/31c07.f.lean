def F_X5_args_153 (R_X5_args : Nat → Int → Int → Int → Z → Nat → Nat → (Z → Prop) → Prop) (R_X5_atom : Nat → Int → Z → Nat → Nat → (Z → Prop) → Prop) (R_X5_bracketed : Nat → Int → Z → Nat → Nat → (Z → Prop) → Prop) (R_X5_expression : Nat → Int → Int → Z → Nat → Nat → (Z → Prop) → Prop) (R_X5_signed : Nat → Int → Z → Nat → Nat → (Z → Prop) → Prop) (R_X5_word : Nat → Int → Z → Nat → Nat → (Z → Prop) → Prop) (t0 : Nat) (x1 : Int) (x2 : Int) (x3 : Int) (x4 : Int) (x5 : Int) (x6 : Int) (x7 : Int) (z : Z) (c : Nat) (s : Nat) (P : (Int × Int × Int × Int × Z × Nat × Nat) ⊕ ((Int × Int × Z × Nat × Nat) ⊕ (Z × Nat × Nat)) → Prop) : Prop :=
  (zK z t0 = 6 ∧ (if zI z t0 4 = 0 then (∀ z_168, z_168 = wI z t0 9 (w32 (zI z t0 9 + 1)) → P (.inl (x4, x5, x6, w32 (x7 + 1), z_168, c, s))) else P (.inr (.inr (z, c, s)))))
theorem T_X5_args_153 {n : Nat} {R_X5_args : Nat → Int → Int → Int → Z → Nat → Nat → (Z → Prop) → Prop} {R_X5_atom : Nat → Int → Z → Nat → Nat → (Z → Prop) → Prop} {R_X5_bracketed : Nat → Int → Z → Nat → Nat → (Z → Prop) → Prop} {R_X5_expression : Nat → Int → Int → Z → Nat → Nat → (Z → Prop) → Prop} {R_X5_signed : Nat → Int → Z → Nat → Nat → (Z → Prop) → Prop} {R_X5_word : Nat → Int → Z → Nat → Nat → (Z → Prop) → Prop} {t0 : Nat} {x1 : Int} {x2 : Int} {x3 : Int} {x4 : Int} {x5 : Int} {x6 : Int} {x7 : Int} {z : Z} {c : Nat} {s : Nat} {P : (Int × Int × Int × Int × Z × Nat × Nat) ⊕ ((Int × Int × Z × Nat × Nat) ⊕ (Z × Nat × Nat)) → Prop} {post : Option Sv ⊕ String → Hp → Prop} (r_x1 : R32 x1) (r_x2 : R32 x2) (r_x3 : R32 x3) (r_x4 : R32 x4) (r_x5 : R32 x5) (r_x6 : R32 x6) (r_x7 : R32 x7) (hw : Wz z) (ih_X5_args : ∀ {t0 : Nat} {x1 : Int} {x2 : Int} {x3 : Int} {z : Z} {c : Nat} {s : Nat} {P : Z → Prop}, R32 x1 → R32 x2 → R32 x3 → Wz z → R_X5_args t0 x1 x2 x3 z c s P → Con mX5_args (9 + n) c s [vr (some t0), ii (x1), ii (x2), ii (x3)] (cz z) (QZV P)) (ih_X5_atom : ∀ {t0 : Nat} {x1 : Int} {z : Z} {c : Nat} {s : Nat} {P : Z → Prop}, R32 x1 → Wz z → R_X5_atom t0 x1 z c s P → Con mX5_atom (9 + n) c s [vr (some t0), ii (x1)] (cz z) (QZV P)) (ih_X5_bracketed : ∀ {t0 : Nat} {x1 : Int} {z : Z} {c : Nat} {s : Nat} {P : Z → Prop}, R32 x1 → Wz z → R_X5_bracketed t0 x1 z c s P → Con mX5_bracketed (9 + n) c s [vr (some t0), ii (x1)] (cz z) (QZV P)) (ih_X5_expression : ∀ {t0 : Nat} {x1 : Int} {x2 : Int} {z : Z} {c : Nat} {s : Nat} {P : Z → Prop}, R32 x1 → R32 x2 → Wz z → R_X5_expression t0 x1 x2 z c s P → Con mX5_expression (9 + n) c s [vr (some t0), ii (x1), ii (x2)] (cz z) (QZV P)) (ih_X5_signed : ∀ {t0 : Nat} {x1 : Int} {z : Z} {c : Nat} {s : Nat} {P : Z → Prop}, R32 x1 → Wz z → R_X5_signed t0 x1 z c s P → Con mX5_signed (9 + n) c s [vr (some t0), ii (x1)] (cz z) (QZV P)) (ih_X5_word : ∀ {t0 : Nat} {x1 : Int} {z : Z} {c : Nat} {s : Nat} {P : Z → Prop}, R32 x1 → Wz z → R_X5_word t0 x1 z c s P → Con mX5_word (9 + n) c s [vr (some t0), ii (x1)] (cz z) (QZV P)) (hl : ∀ (x4 : Int) (x5 : Int) (x6 : Int) (x7 : Int) (z : Z) (c : Nat) (s : Nat), P (.inl (x4, x5, x6, x7, z, c, s)) → Wz z → R32 x4 → R32 x5 → R32 x6 → R32 x7 → J mX5_args (9 + n + 1) c s post 12 [some (vr (some t0)), some (ii (x1)), some (ii (x2)), some (ii (x3)), some (ii (x4)), some (ii (x5)), some (ii (x6)), some (ii (x7)), none] [] (cz z)) (he0 : ∀ (x4 : Int) (x5 : Int) (z : Z) (c : Nat) (s : Nat), P (.inr (.inl (x4, x5, z, c, s))) → Wz z → R32 x4 → R32 x5 → J mX5_args (9 + n + 1) c s post 177 [some (vr (some t0)), some (ii (x1)), some (ii (x2)), none, some (ii (x4)), some (ii (x5)), none, none, none] [] (cz z)) (he1 : ∀ (z : Z) (c : Nat) (s : Nat), P (.inr (.inr (z, c, s))) → Wz z → J mX5_args (9 + n + 1) c s post 160 [none, none, none, none, none, none, none, none, none] [] (cz z)) (H : F_X5_args_153 R_X5_args R_X5_atom R_X5_bracketed R_X5_expression R_X5_signed R_X5_word t0 x1 x2 x3 x4 x5 x6 x7 z c s P) : J mX5_args (9 + n + 1) c s (post) 153 [some (vr (some t0)), some (ii (x1)), some (ii (x2)), some (ii (x3)), some (ii (x4)), some (ii (x5)), some (ii (x6)), some (ii (x7)), none] [] (cz z) := by
  unfold F_X5_args_153 at H
  refine j_aload_n (dk dt_X5_args 77 rfl) rfl ?_
  obtain ⟨k_154, H⟩ := H
  refine jz_getI (kz := 4) (dk dt_X5_args 78 rfl) fl_X5_36 rfl rfl rfl k_154 ?_
  refine jz_if_eq 161 (dk dt_X5_args 79 rfl) (by decide) (hw.1 _ _) H (fun H => ?_) (fun H => ?_)
  · refine j_aload_n (dk dt_X5_args 81 rfl) rfl ?_
    refine j_dup (dk dt_X5_args 82 rfl) rfl ?_
    refine jz_getI (kz := 9) (dk dt_X5_args 83 rfl) fl_X5_112 rfl rfl rfl k_154 ?_
    refine j_iconst (v := Int32.ofInt 1) (dk dt_X5_args 84 rfl) (by decide) ?_
    refine jz_iadd (dk dt_X5_args 85 rfl) ?_
    refine jz_putI (kz := 9) (dk dt_X5_args 86 rfl) fl_X5_112 rfl rfl rfl rfl rfl k_154 hw (r32_w _) (fun w_168 => ?_)
    replace H := H _ rfl
    refine jz_iinc (dk dt_X5_args 87 rfl) rfl ?_
    refine j_goto 12 (dk dt_X5_args 88 rfl) (by decide) ?_
    exact j_el (hl _ _ _ _ _ _ _ H w_168 r_x4 r_x5 r_x6 (r32_w _)) (And.intro rfl (And.intro rfl (And.intro rfl (And.intro rfl (And.intro rfl (And.intro rfl (And.intro rfl (And.intro rfl trivial))))))))
  · exact j_el (he1 _ _ _ H hw) trivial
def F_X5_args_124 (R_X5_args : Nat → Int → Int → Int → Z → Nat → Nat → (Z → Prop) → Prop) (R_X5_atom : Nat → Int → Z → Nat → Nat → (Z → Prop) → Prop) (R_X5_bracketed : Nat → Int → Z → Nat → Nat → (Z → Prop) → Prop) (R_X5_expression : Nat → Int → Int → Z → Nat → Nat → (Z → Prop) → Prop) (R_X5_signed : Nat → Int → Z → Nat → Nat → (Z → Prop) → Prop) (R_X5_word : Nat → Int → Z → Nat → Nat → (Z → Prop) → Prop) (t0 : Nat) (x1 : Int) (x2 : Int) (x3 : Int) (x4 : Int) (x5 : Int) (x7 : Int) (s0 : Int) (z : Z) (c : Nat) (s : Nat) (P : (Int × Int × Int × Int × Z × Nat × Nat) ⊕ ((Int × Int × Z × Nat × Nat) ⊕ (Z × Nat × Nat)) → Prop) : Prop :=
  (if s0 = 0 then (zK z t0 = 6 ∧ F_X5_byteAt t0 (zI z t0 9) z (fun x_136 => (if x_136 = 41 then F_X5_args_153 R_X5_args R_X5_atom R_X5_bracketed R_X5_expression R_X5_signed R_X5_word t0 x1 x2 x3 x4 x5 s0 x7 z c s P else F_X5_placeOrEnd t0 z (fun x_147 => F_X5_fail t0 1 x_147 z (fun z_150 => F_X5_args_153 R_X5_args R_X5_atom R_X5_bracketed R_X5_expression R_X5_signed R_X5_word t0 x1 x2 x3 x4 x5 s0 x7 z_150 c s P))))) else F_X5_args_153 R_X5_args R_X5_atom R_X5_bracketed R_X5_expression R_X5_signed R_X5_word t0 x1 x2 x3 x4 x5 s0 x7 z c s P)
theorem T_X5_args_124 {n : Nat} {R_X5_args : Nat → Int → Int → Int → Z → Nat → Nat → (Z → Prop) → Prop} {R_X5_atom : Nat → Int → Z → Nat → Nat → (Z → Prop) → Prop} {R_X5_bracketed : Nat → Int → Z → Nat → Nat → (Z → Prop) → Prop} {R_X5_expression : Nat → Int → Int → Z → Nat → Nat → (Z → Prop) → Prop} {R_X5_signed : Nat → Int → Z → Nat → Nat → (Z → Prop) → Prop} {R_X5_word : Nat → Int → Z → Nat → Nat → (Z → Prop) → Prop} {t0 : Nat} {x1 : Int} {x2 : Int} {x3 : Int} {x4 : Int} {x5 : Int} {x7 : Int} {s0 : Int} {z : Z} {c : Nat} {s : Nat} {P : (Int × Int × Int × Int × Z × Nat × Nat) ⊕ ((Int × Int × Z × Nat × Nat) ⊕ (Z × Nat × Nat)) → Prop} {post : Option Sv ⊕ String → Hp → Prop} (r_x1 : R32 x1) (r_x2 : R32 x2) (r_x3 : R32 x3) (r_x4 : R32 x4) (r_x5 : R32 x5) (r_x7 : R32 x7) (r_s0 : R32 s0) (hw : Wz z) (ih_X5_args : ∀ {t0 : Nat} {x1 : Int} {x2 : Int} {x3 : Int} {z : Z} {c : Nat} {s : Nat} {P : Z → Prop}, R32 x1 → R32 x2 → R32 x3 → Wz z → R_X5_args t0 x1 x2 x3 z c s P → Con mX5_args (9 + n) c s [vr (some t0), ii (x1), ii (x2), ii (x3)] (cz z) (QZV P)) (ih_X5_atom : ∀ {t0 : Nat} {x1 : Int} {z : Z} {c : Nat} {s : Nat} {P : Z → Prop}, R32 x1 → Wz z → R_X5_atom t0 x1 z c s P → Con mX5_atom (9 + n) c s [vr (some t0), ii (x1)] (cz z) (QZV P)) (ih_X5_bracketed : ∀ {t0 : Nat} {x1 : Int} {z : Z} {c : Nat} {s : Nat} {P : Z → Prop}, R32 x1 → Wz z → R_X5_bracketed t0 x1 z c s P → Con mX5_bracketed (9 + n) c s [vr (some t0), ii (x1)] (cz z) (QZV P)) (ih_X5_expression : ∀ {t0 : Nat} {x1 : Int} {x2 : Int} {z : Z} {c : Nat} {s : Nat} {P : Z → Prop}, R32 x1 → R32 x2 → Wz z → R_X5_expression t0 x1 x2 z c s P → Con mX5_expression (9 + n) c s [vr (some t0), ii (x1), ii (x2)] (cz z) (QZV P)) (ih_X5_signed : ∀ {t0 : Nat} {x1 : Int} {z : Z} {c : Nat} {s : Nat} {P : Z → Prop}, R32 x1 → Wz z → R_X5_signed t0 x1 z c s P → Con mX5_signed (9 + n) c s [vr (some t0), ii (x1)] (cz z) (QZV P)) (ih_X5_word : ∀ {t0 : Nat} {x1 : Int} {z : Z} {c : Nat} {s : Nat} {P : Z → Prop}, R32 x1 → Wz z → R_X5_word t0 x1 z c s P → Con mX5_word (9 + n) c s [vr (some t0), ii (x1)] (cz z) (QZV P)) (hl : ∀ (x4 : Int) (x5 : Int) (x6 : Int) (x7 : Int) (z : Z) (c : Nat) (s : Nat), P (.inl (x4, x5, x6, x7, z, c, s)) → Wz z → R32 x4 → R32 x5 → R32 x6 → R32 x7 → J mX5_args (9 + n + 1) c s post 12 [some (vr (some t0)), some (ii (x1)), some (ii (x2)), some (ii (x3)), some (ii (x4)), some (ii (x5)), some (ii (x6)), some (ii (x7)), none] [] (cz z)) (he0 : ∀ (x4 : Int) (x5 : Int) (z : Z) (c : Nat) (s : Nat), P (.inr (.inl (x4, x5, z, c, s))) → Wz z → R32 x4 → R32 x5 → J mX5_args (9 + n + 1) c s post 177 [some (vr (some t0)), some (ii (x1)), some (ii (x2)), none, some (ii (x4)), some (ii (x5)), none, none, none] [] (cz z)) (he1 : ∀ (z : Z) (c : Nat) (s : Nat), P (.inr (.inr (z, c, s))) → Wz z → J mX5_args (9 + n + 1) c s post 160 [none, none, none, none, none, none, none, none, none] [] (cz z)) (H : F_X5_args_124 R_X5_args R_X5_atom R_X5_bracketed R_X5_expression R_X5_signed R_X5_word t0 x1 x2 x3 x4 x5 x7 s0 z c s P) : J mX5_args (9 + n + 1) c s (post) 124 [some (vr (some t0)), some (ii (x1)), some (ii (x2)), some (ii (x3)), some (ii (x4)), some (ii (x5)), none, some (ii (x7)), none] [ii (s0)] (cz z) := by
  unfold F_X5_args_124 at H
  refine j_istore (dk dt_X5_args 63 rfl) (by decide) ?_
  refine j_iload (dk dt_X5_args 64 rfl) rfl ?_
  refine jz_if_ne 153 (dk dt_X5_args 65 rfl) (by decide) r_s0 H (fun H => ?_) (fun H => ?_)
  · refine j_aload_n (dk dt_X5_args 66 rfl) rfl ?_
    refine j_aload_n (dk dt_X5_args 67 rfl) rfl ?_
    obtain ⟨k_133, H⟩ := H
    refine jz_getI (kz := 9) (dk dt_X5_args 68 rfl) fl_X5_112 rfl rfl rfl k_133 ?_
    refine jz_callV1 (dk dt_X5_args 69 rfl) vl_X5_146 rfl (T_X5_byteAt (hw.1 _ _) hw H) k_133 rfl (by omega) (Nat.zero_le _) (Nat.zero_le _) (Nat.le_of_ble_eq_true rfl) (fun v_136 h_136 P_136 => ?_)
    obtain ⟨x_136, rfl, r_136, rfl, H⟩ := P_136
    dsimp only [rs]
    refine j_bipush (v := Int32.ofInt 41) (dk dt_X5_args 70 rfl) (by decide) ?_
    refine jz_icmp_eq 153 (dk dt_X5_args 71 rfl) (by decide) r_136 (by decide) H (fun H => ?_) (fun H => ?_)
    · exact j_el (T_X5_args_153 r_x1 r_x2 r_x3 r_x4 r_x5 r_s0 r_x7 hw ih_X5_args ih_X5_atom ih_X5_bracketed ih_X5_expression ih_X5_signed ih_X5_word hl he0 he1 H) (And.intro rfl (And.intro rfl (And.intro rfl (And.intro rfl (And.intro rfl (And.intro rfl (And.intro rfl (And.intro rfl trivial))))))))
    · refine j_aload_n (dk dt_X5_args 72 rfl) rfl ?_
      refine j_iconst (v := Int32.ofInt 1) (dk dt_X5_args 73 rfl) (by decide) ?_
      refine j_aload_n (dk dt_X5_args 74 rfl) rfl ?_
      refine jz_callV0 (dk dt_X5_args 75 rfl) vl_X5_185 rfl (T_X5_placeOrEnd hw H) k_133 rfl (by omega) (Nat.zero_le _) (Nat.zero_le _) (Nat.le_of_ble_eq_true rfl) (fun v_147 h_147 P_147 => ?_)
      obtain ⟨x_147, rfl, r_147, rfl, H⟩ := P_147
      dsimp only [rs]
      refine jz_callV2 (dk dt_X5_args 76 rfl) vl_X5_62 rfl (T_X5_fail (by decide) r_147 hw H) k_133 rfl (by omega) (Nat.zero_le _) (Nat.zero_le _) (Nat.le_of_ble_eq_true rfl) (fun v_150 h_150 P_150 => ?_)
      obtain ⟨z_150, rfl, rfl, w_150, H⟩ := P_150
      dsimp only [rs]
      exact j_el (T_X5_args_153 r_x1 r_x2 r_x3 r_x4 r_x5 r_s0 r_x7 w_150 ih_X5_args ih_X5_atom ih_X5_bracketed ih_X5_expression ih_X5_signed ih_X5_word hl he0 he1 H) (And.intro rfl (And.intro rfl (And.intro rfl (And.intro rfl (And.intro rfl (And.intro rfl (And.intro rfl (And.intro rfl trivial))))))))
  · exact j_el (T_X5_args_153 r_x1 r_x2 r_x3 r_x4 r_x5 r_s0 r_x7 hw ih_X5_args ih_X5_atom ih_X5_bracketed ih_X5_expression ih_X5_signed ih_X5_word hl he0 he1 H) (And.intro rfl (And.intro rfl (And.intro rfl (And.intro rfl (And.intro rfl (And.intro rfl (And.intro rfl (And.intro rfl trivial))))))))
def F_X5_args_96 (R_X5_args : Nat → Int → Int → Int → Z → Nat → Nat → (Z → Prop) → Prop) (R_X5_atom : Nat → Int → Z → Nat → Nat → (Z → Prop) → Prop) (R_X5_bracketed : Nat → Int → Z → Nat → Nat → (Z → Prop) → Prop) (R_X5_expression : Nat → Int → Int → Z → Nat → Nat → (Z → Prop) → Prop) (R_X5_signed : Nat → Int → Z → Nat → Nat → (Z → Prop) → Prop) (R_X5_word : Nat → Int → Z → Nat → Nat → (Z → Prop) → Prop) (t0 : Nat) (x1 : Int) (x2 : Int) (x3 : Int) (x5 : Int) (x7 : Int) (s0 : Int) (s1 : Int) (z : Z) (c : Nat) (s : Nat) (P : (Int × Int × Int × Int × Z × Nat × Nat) ⊕ ((Int × Int × Z × Nat × Nat) ⊕ (Z × Nat × Nat)) → Prop) : Prop :=
  (zK z t0 = 6 ∧ F_X5_skipBlanks t0 z (fun z_103 => (zK z_103 t0 = 6 ∧ F_X5_byteAt t0 (zI z_103 t0 9) z_103 (fun x_111 => (if x_111 = 44 then F_X5_args_124 R_X5_args R_X5_atom R_X5_bracketed R_X5_expression R_X5_signed R_X5_word t0 x1 x2 x3 (bOr s0 s1) (w32 (x5 + 1)) x7 1 z_103 c s P else F_X5_args_124 R_X5_args R_X5_atom R_X5_bracketed R_X5_expression R_X5_signed R_X5_word t0 x1 x2 x3 (bOr s0 s1) (w32 (x5 + 1)) x7 0 z_103 c s P)))))
theorem T_X5_args_96 {n : Nat} {R_X5_args : Nat → Int → Int → Int → Z → Nat → Nat → (Z → Prop) → Prop} {R_X5_atom : Nat → Int → Z → Nat → Nat → (Z → Prop) → Prop} {R_X5_bracketed : Nat → Int → Z → Nat → Nat → (Z → Prop) → Prop} {R_X5_expression : Nat → Int → Int → Z → Nat → Nat → (Z → Prop) → Prop} {R_X5_signed : Nat → Int → Z → Nat → Nat → (Z → Prop) → Prop} {R_X5_word : Nat → Int → Z → Nat → Nat → (Z → Prop) → Prop} {t0 : Nat} {x1 : Int} {x2 : Int} {x3 : Int} {x5 : Int} {x7 : Int} {s0 : Int} {s1 : Int} {z : Z} {c : Nat} {s : Nat} {P : (Int × Int × Int × Int × Z × Nat × Nat) ⊕ ((Int × Int × Z × Nat × Nat) ⊕ (Z × Nat × Nat)) → Prop} {post : Option Sv ⊕ String → Hp → Prop} (r_x1 : R32 x1) (r_x2 : R32 x2) (r_x3 : R32 x3) (r_x5 : R32 x5) (r_x7 : R32 x7) (r_s0 : R32 s0) (r_s1 : R32 s1) (hw : Wz z) (ih_X5_args : ∀ {t0 : Nat} {x1 : Int} {x2 : Int} {x3 : Int} {z : Z} {c : Nat} {s : Nat} {P : Z → Prop}, R32 x1 → R32 x2 → R32 x3 → Wz z → R_X5_args t0 x1 x2 x3 z c s P → Con mX5_args (9 + n) c s [vr (some t0), ii (x1), ii (x2), ii (x3)] (cz z) (QZV P)) (ih_X5_atom : ∀ {t0 : Nat} {x1 : Int} {z : Z} {c : Nat} {s : Nat} {P : Z → Prop}, R32 x1 → Wz z → R_X5_atom t0 x1 z c s P → Con mX5_atom (9 + n) c s [vr (some t0), ii (x1)] (cz z) (QZV P)) (ih_X5_bracketed : ∀ {t0 : Nat} {x1 : Int} {z : Z} {c : Nat} {s : Nat} {P : Z → Prop}, R32 x1 → Wz z → R_X5_bracketed t0 x1 z c s P → Con mX5_bracketed (9 + n) c s [vr (some t0), ii (x1)] (cz z) (QZV P)) (ih_X5_expression : ∀ {t0 : Nat} {x1 : Int} {x2 : Int} {z : Z} {c : Nat} {s : Nat} {P : Z → Prop}, R32 x1 → R32 x2 → Wz z → R_X5_expression t0 x1 x2 z c s P → Con mX5_expression (9 + n) c s [vr (some t0), ii (x1), ii (x2)] (cz z) (QZV P)) (ih_X5_signed : ∀ {t0 : Nat} {x1 : Int} {z : Z} {c : Nat} {s : Nat} {P : Z → Prop}, R32 x1 → Wz z → R_X5_signed t0 x1 z c s P → Con mX5_signed (9 + n) c s [vr (some t0), ii (x1)] (cz z) (QZV P)) (ih_X5_word : ∀ {t0 : Nat} {x1 : Int} {z : Z} {c : Nat} {s : Nat} {P : Z → Prop}, R32 x1 → Wz z → R_X5_word t0 x1 z c s P → Con mX5_word (9 + n) c s [vr (some t0), ii (x1)] (cz z) (QZV P)) (hl : ∀ (x4 : Int) (x5 : Int) (x6 : Int) (x7 : Int) (z : Z) (c : Nat) (s : Nat), P (.inl (x4, x5, x6, x7, z, c, s)) → Wz z → R32 x4 → R32 x5 → R32 x6 → R32 x7 → J mX5_args (9 + n + 1) c s post 12 [some (vr (some t0)), some (ii (x1)), some (ii (x2)), some (ii (x3)), some (ii (x4)), some (ii (x5)), some (ii (x6)), some (ii (x7)), none] [] (cz z)) (he0 : ∀ (x4 : Int) (x5 : Int) (z : Z) (c : Nat) (s : Nat), P (.inr (.inl (x4, x5, z, c, s))) → Wz z → R32 x4 → R32 x5 → J mX5_args (9 + n + 1) c s post 177 [some (vr (some t0)), some (ii (x1)), some (ii (x2)), none, some (ii (x4)), some (ii (x5)), none, none, none] [] (cz z)) (he1 : ∀ (z : Z) (c : Nat) (s : Nat), P (.inr (.inr (z, c, s))) → Wz z → J mX5_args (9 + n + 1) c s post 160 [none, none, none, none, none, none, none, none, none] [] (cz z)) (H : F_X5_args_96 R_X5_args R_X5_atom R_X5_bracketed R_X5_expression R_X5_signed R_X5_word t0 x1 x2 x3 x5 x7 s0 s1 z c s P) : J mX5_args (9 + n + 1) c s (post) 96 [some (vr (some t0)), some (ii (x1)), some (ii (x2)), some (ii (x3)), none, some (ii (x5)), none, some (ii (x7)), none] [ii (s1), ii (s0)] (cz z) := by
  unfold F_X5_args_96 at H
  refine jz_ior (dk dt_X5_args 49 rfl) ?_
  refine j_istore (dk dt_X5_args 50 rfl) (by decide) ?_
  refine jz_iinc (dk dt_X5_args 51 rfl) rfl ?_
  refine j_aload_n (dk dt_X5_args 52 rfl) rfl ?_
  obtain ⟨k_103, H⟩ := H
  refine jz_callV0 (dk dt_X5_args 53 rfl) vl_X5_118 rfl (T_X5_skipBlanks hw H) k_103 rfl (by omega) (Nat.zero_le _) (Nat.zero_le _) (Nat.le_of_ble_eq_true rfl) (fun v_103 h_103 P_103 => ?_)
  obtain ⟨z_103, rfl, rfl, w_103, H⟩ := P_103
  dsimp only [rs]
  refine j_aload_n (dk dt_X5_args 54 rfl) rfl ?_
  refine j_aload_n (dk dt_X5_args 55 rfl) rfl ?_
  obtain ⟨k_108, H⟩ := H
  refine jz_getI (kz := 9) (dk dt_X5_args 56 rfl) fl_X5_112 rfl rfl rfl k_108 ?_
  refine jz_callV1 (dk dt_X5_args 57 rfl) vl_X5_146 rfl (T_X5_byteAt (w_103.1 _ _) w_103 H) k_108 rfl (by omega) (Nat.zero_le _) (Nat.zero_le _) (Nat.le_of_ble_eq_true rfl) (fun v_111 h_111 P_111 => ?_)
  obtain ⟨x_111, rfl, r_111, rfl, H⟩ := P_111
  dsimp only [rs]
  refine j_bipush (v := Int32.ofInt 44) (dk dt_X5_args 58 rfl) (by decide) ?_
  refine jz_icmp_ne 123 (dk dt_X5_args 59 rfl) (by decide) r_111 (by decide) H (fun H => ?_) (fun H => ?_)
  · refine j_iconst (v := Int32.ofInt 1) (dk dt_X5_args 60 rfl) (by decide) ?_
    refine j_goto 124 (dk dt_X5_args 61 rfl) (by decide) ?_
    exact j_el (T_X5_args_124 r_x1 r_x2 r_x3 (r32_t _) (r32_w _) r_x7 (by decide) w_103 ih_X5_args ih_X5_atom ih_X5_bracketed ih_X5_expression ih_X5_signed ih_X5_word hl he0 he1 H) (And.intro rfl (And.intro rfl (And.intro rfl (And.intro rfl (And.intro rfl (And.intro rfl (And.intro rfl trivial)))))))
  · refine j_iconst (v := Int32.ofInt 0) (dk dt_X5_args 62 rfl) (by decide) ?_
    exact j_el (T_X5_args_124 r_x1 r_x2 r_x3 (r32_t _) (r32_w _) r_x7 (by decide) w_103 ih_X5_args ih_X5_atom ih_X5_bracketed ih_X5_expression ih_X5_signed ih_X5_word hl he0 he1 H) (And.intro rfl (And.intro rfl (And.intro rfl (And.intro rfl (And.intro rfl (And.intro rfl (And.intro rfl trivial)))))))
def F_X5_args_72 (R_X5_args : Nat → Int → Int → Int → Z → Nat → Nat → (Z → Prop) → Prop) (R_X5_atom : Nat → Int → Z → Nat → Nat → (Z → Prop) → Prop) (R_X5_bracketed : Nat → Int → Z → Nat → Nat → (Z → Prop) → Prop) (R_X5_expression : Nat → Int → Int → Z → Nat → Nat → (Z → Prop) → Prop) (R_X5_signed : Nat → Int → Z → Nat → Nat → (Z → Prop) → Prop) (R_X5_word : Nat → Int → Z → Nat → Nat → (Z → Prop) → Prop) (t0 : Nat) (x1 : Int) (x2 : Int) (x3 : Int) (x4 : Int) (x5 : Int) (x7 : Int) (x8 : Int) (z : Z) (c : Nat) (s : Nat) (P : (Int × Int × Int × Int × Z × Nat × Nat) ⊕ ((Int × Int × Z × Nat × Nat) ⊕ (Z × Nat × Nat)) → Prop) : Prop :=
  (if 8 ≤ x5 then F_X5_args_96 R_X5_args R_X5_atom R_X5_bracketed R_X5_expression R_X5_signed R_X5_word t0 x1 x2 x3 x5 x7 x4 0 z c s P else (zK z t0 = 6 ∧ F_X5_shapeFrom t0 x8 z (fun x_84 => F_X5_args_96 R_X5_args R_X5_atom R_X5_bracketed R_X5_expression R_X5_signed R_X5_word t0 x1 x2 x3 x5 x7 x4 (bShl x_84 (w32 (2 * x5))) z c s P)))
theorem T_X5_args_72 {n : Nat} {R_X5_args : Nat → Int → Int → Int → Z → Nat → Nat → (Z → Prop) → Prop} {R_X5_atom : Nat → Int → Z → Nat → Nat → (Z → Prop) → Prop} {R_X5_bracketed : Nat → Int → Z → Nat → Nat → (Z → Prop) → Prop} {R_X5_expression : Nat → Int → Int → Z → Nat → Nat → (Z → Prop) → Prop} {R_X5_signed : Nat → Int → Z → Nat → Nat → (Z → Prop) → Prop} {R_X5_word : Nat → Int → Z → Nat → Nat → (Z → Prop) → Prop} {t0 : Nat} {x1 : Int} {x2 : Int} {x3 : Int} {x4 : Int} {x5 : Int} {x7 : Int} {x8 : Int} {z : Z} {c : Nat} {s : Nat} {P : (Int × Int × Int × Int × Z × Nat × Nat) ⊕ ((Int × Int × Z × Nat × Nat) ⊕ (Z × Nat × Nat)) → Prop} {post : Option Sv ⊕ String → Hp → Prop} (r_x1 : R32 x1) (r_x2 : R32 x2) (r_x3 : R32 x3) (r_x4 : R32 x4) (r_x5 : R32 x5) (r_x7 : R32 x7) (r_x8 : R32 x8) (hw : Wz z) (ih_X5_args : ∀ {t0 : Nat} {x1 : Int} {x2 : Int} {x3 : Int} {z : Z} {c : Nat} {s : Nat} {P : Z → Prop}, R32 x1 → R32 x2 → R32 x3 → Wz z → R_X5_args t0 x1 x2 x3 z c s P → Con mX5_args (9 + n) c s [vr (some t0), ii (x1), ii (x2), ii (x3)] (cz z) (QZV P)) (ih_X5_atom : ∀ {t0 : Nat} {x1 : Int} {z : Z} {c : Nat} {s : Nat} {P : Z → Prop}, R32 x1 → Wz z → R_X5_atom t0 x1 z c s P → Con mX5_atom (9 + n) c s [vr (some t0), ii (x1)] (cz z) (QZV P)) (ih_X5_bracketed : ∀ {t0 : Nat} {x1 : Int} {z : Z} {c : Nat} {s : Nat} {P : Z → Prop}, R32 x1 → Wz z → R_X5_bracketed t0 x1 z c s P → Con mX5_bracketed (9 + n) c s [vr (some t0), ii (x1)] (cz z) (QZV P)) (ih_X5_expression : ∀ {t0 : Nat} {x1 : Int} {x2 : Int} {z : Z} {c : Nat} {s : Nat} {P : Z → Prop}, R32 x1 → R32 x2 → Wz z → R_X5_expression t0 x1 x2 z c s P → Con mX5_expression (9 + n) c s [vr (some t0), ii (x1), ii (x2)] (cz z) (QZV P)) (ih_X5_signed : ∀ {t0 : Nat} {x1 : Int} {z : Z} {c : Nat} {s : Nat} {P : Z → Prop}, R32 x1 → Wz z → R_X5_signed t0 x1 z c s P → Con mX5_signed (9 + n) c s [vr (some t0), ii (x1)] (cz z) (QZV P)) (ih_X5_word : ∀ {t0 : Nat} {x1 : Int} {z : Z} {c : Nat} {s : Nat} {P : Z → Prop}, R32 x1 → Wz z → R_X5_word t0 x1 z c s P → Con mX5_word (9 + n) c s [vr (some t0), ii (x1)] (cz z) (QZV P)) (hl : ∀ (x4 : Int) (x5 : Int) (x6 : Int) (x7 : Int) (z : Z) (c : Nat) (s : Nat), P (.inl (x4, x5, x6, x7, z, c, s)) → Wz z → R32 x4 → R32 x5 → R32 x6 → R32 x7 → J mX5_args (9 + n + 1) c s post 12 [some (vr (some t0)), some (ii (x1)), some (ii (x2)), some (ii (x3)), some (ii (x4)), some (ii (x5)), some (ii (x6)), some (ii (x7)), none] [] (cz z)) (he0 : ∀ (x4 : Int) (x5 : Int) (z : Z) (c : Nat) (s : Nat), P (.inr (.inl (x4, x5, z, c, s))) → Wz z → R32 x4 → R32 x5 → J mX5_args (9 + n + 1) c s post 177 [some (vr (some t0)), some (ii (x1)), some (ii (x2)), none, some (ii (x4)), some (ii (x5)), none, none, none] [] (cz z)) (he1 : ∀ (z : Z) (c : Nat) (s : Nat), P (.inr (.inr (z, c, s))) → Wz z → J mX5_args (9 + n + 1) c s post 160 [none, none, none, none, none, none, none, none, none] [] (cz z)) (H : F_X5_args_72 R_X5_args R_X5_atom R_X5_bracketed R_X5_expression R_X5_signed R_X5_word t0 x1 x2 x3 x4 x5 x7 x8 z c s P) : J mX5_args (9 + n + 1) c s (post) 72 [some (vr (some t0)), some (ii (x1)), some (ii (x2)), some (ii (x3)), some (ii (x4)), some (ii (x5)), none, some (ii (x7)), some (ii (x8))] [] (cz z) := by
  unfold F_X5_args_72 at H
  refine j_iload (dk dt_X5_args 36 rfl) rfl ?_
  refine j_iload (dk dt_X5_args 37 rfl) rfl ?_
  refine j_bipush (v := Int32.ofInt 8) (dk dt_X5_args 38 rfl) (by decide) ?_
  refine jz_icmp_ge 95 (dk dt_X5_args 39 rfl) (by decide) r_x5 (by decide) H (fun H => ?_) (fun H => ?_)
  · refine j_iconst (v := Int32.ofInt 0) (dk dt_X5_args 48 rfl) (by decide) ?_
    exact j_el (T_X5_args_96 r_x1 r_x2 r_x3 r_x5 r_x7 r_x4 (by decide) hw ih_X5_args ih_X5_atom ih_X5_bracketed ih_X5_expression ih_X5_signed ih_X5_word hl he0 he1 H) (And.intro rfl (And.intro rfl (And.intro rfl (And.intro rfl (And.intro rfl (And.intro rfl trivial))))))
  · refine j_aload_n (dk dt_X5_args 40 rfl) rfl ?_
    refine j_iload (dk dt_X5_args 41 rfl) rfl ?_
    obtain ⟨k_84, H⟩ := H
    refine jz_callV1 (dk dt_X5_args 42 rfl) vl_X5_265 rfl (T_X5_shapeFrom r_x8 hw H) k_84 rfl (by omega) (Nat.zero_le _) (Nat.zero_le _) (Nat.le_of_ble_eq_true rfl) (fun v_84 h_84 P_84 => ?_)
    obtain ⟨x_84, rfl, r_84, rfl, H⟩ := P_84
    dsimp only [rs]
    refine j_iconst (v := Int32.ofInt 2) (dk dt_X5_args 43 rfl) (by decide) ?_
    refine j_iload (dk dt_X5_args 44 rfl) rfl ?_
    refine jz_imul (dk dt_X5_args 45 rfl) ?_
    refine jz_ishl (dk dt_X5_args 46 rfl) ?_
    refine j_goto 96 (dk dt_X5_args 47 rfl) (by decide) ?_
    exact j_el (T_X5_args_96 r_x1 r_x2 r_x3 r_x5 r_x7 r_x4 (r32_t _) hw ih_X5_args ih_X5_atom ih_X5_bracketed ih_X5_expression ih_X5_signed ih_X5_word hl he0 he1 H) (And.intro rfl (And.intro rfl (And.intro rfl (And.intro rfl (And.intro rfl (And.intro rfl trivial))))))
def F_X5_args_66 (R_X5_args : Nat → Int → Int → Int → Z → Nat → Nat → (Z → Prop) → Prop) (R_X5_atom : Nat → Int → Z → Nat → Nat → (Z → Prop) → Prop) (R_X5_bracketed : Nat → Int → Z → Nat → Nat → (Z → Prop) → Prop) (R_X5_expression : Nat → Int → Int → Z → Nat → Nat → (Z → Prop) → Prop) (R_X5_signed : Nat → Int → Z → Nat → Nat → (Z → Prop) → Prop) (R_X5_word : Nat → Int → Z → Nat → Nat → (Z → Prop) → Prop) (t0 : Nat) (x1 : Int) (x2 : Int) (x3 : Int) (x4 : Int) (x5 : Int) (x7 : Int) (x8 : Int) (z : Z) (c : Nat) (s : Nat) (P : (Int × Int × Int × Int × Z × Nat × Nat) ⊕ ((Int × Int × Z × Nat × Nat) ⊕ (Z × Nat × Nat)) → Prop) : Prop :=
  (zK z t0 = 6 ∧ (∃ c_69 s_69, c_69 ≤ c ∧ s_69 ≤ s ∧ R_X5_expression t0 1 x3 z c_69 s_69 (fun z_69 => F_X5_args_72 R_X5_args R_X5_atom R_X5_bracketed R_X5_expression R_X5_signed R_X5_word t0 x1 x2 x3 x4 x5 x7 x8 z_69 (c - c_69) (s - s_69) P)))
theorem T_X5_args_66 {n : Nat} {R_X5_args : Nat → Int → Int → Int → Z → Nat → Nat → (Z → Prop) → Prop} {R_X5_atom : Nat → Int → Z → Nat → Nat → (Z → Prop) → Prop} {R_X5_bracketed : Nat → Int → Z → Nat → Nat → (Z → Prop) → Prop} {R_X5_expression : Nat → Int → Int → Z → Nat → Nat → (Z → Prop) → Prop} {R_X5_signed : Nat → Int → Z → Nat → Nat → (Z → Prop) → Prop} {R_X5_word : Nat → Int → Z → Nat → Nat → (Z → Prop) → Prop} {t0 : Nat} {x1 : Int} {x2 : Int} {x3 : Int} {x4 : Int} {x5 : Int} {x7 : Int} {x8 : Int} {z : Z} {c : Nat} {s : Nat} {P : (Int × Int × Int × Int × Z × Nat × Nat) ⊕ ((Int × Int × Z × Nat × Nat) ⊕ (Z × Nat × Nat)) → Prop} {post : Option Sv ⊕ String → Hp → Prop} (r_x1 : R32 x1) (r_x2 : R32 x2) (r_x3 : R32 x3) (r_x4 : R32 x4) (r_x5 : R32 x5) (r_x7 : R32 x7) (r_x8 : R32 x8) (hw : Wz z) (ih_X5_args : ∀ {t0 : Nat} {x1 : Int} {x2 : Int} {x3 : Int} {z : Z} {c : Nat} {s : Nat} {P : Z → Prop}, R32 x1 → R32 x2 → R32 x3 → Wz z → R_X5_args t0 x1 x2 x3 z c s P → Con mX5_args (9 + n) c s [vr (some t0), ii (x1), ii (x2), ii (x3)] (cz z) (QZV P)) (ih_X5_atom : ∀ {t0 : Nat} {x1 : Int} {z : Z} {c : Nat} {s : Nat} {P : Z → Prop}, R32 x1 → Wz z → R_X5_atom t0 x1 z c s P → Con mX5_atom (9 + n) c s [vr (some t0), ii (x1)] (cz z) (QZV P)) (ih_X5_bracketed : ∀ {t0 : Nat} {x1 : Int} {z : Z} {c : Nat} {s : Nat} {P : Z → Prop}, R32 x1 → Wz z → R_X5_bracketed t0 x1 z c s P → Con mX5_bracketed (9 + n) c s [vr (some t0), ii (x1)] (cz z) (QZV P)) (ih_X5_expression : ∀ {t0 : Nat} {x1 : Int} {x2 : Int} {z : Z} {c : Nat} {s : Nat} {P : Z → Prop}, R32 x1 → R32 x2 → Wz z → R_X5_expression t0 x1 x2 z c s P → Con mX5_expression (9 + n) c s [vr (some t0), ii (x1), ii (x2)] (cz z) (QZV P)) (ih_X5_signed : ∀ {t0 : Nat} {x1 : Int} {z : Z} {c : Nat} {s : Nat} {P : Z → Prop}, R32 x1 → Wz z → R_X5_signed t0 x1 z c s P → Con mX5_signed (9 + n) c s [vr (some t0), ii (x1)] (cz z) (QZV P)) (ih_X5_word : ∀ {t0 : Nat} {x1 : Int} {z : Z} {c : Nat} {s : Nat} {P : Z → Prop}, R32 x1 → Wz z → R_X5_word t0 x1 z c s P → Con mX5_word (9 + n) c s [vr (some t0), ii (x1)] (cz z) (QZV P)) (hl : ∀ (x4 : Int) (x5 : Int) (x6 : Int) (x7 : Int) (z : Z) (c : Nat) (s : Nat), P (.inl (x4, x5, x6, x7, z, c, s)) → Wz z → R32 x4 → R32 x5 → R32 x6 → R32 x7 → J mX5_args (9 + n + 1) c s post 12 [some (vr (some t0)), some (ii (x1)), some (ii (x2)), some (ii (x3)), some (ii (x4)), some (ii (x5)), some (ii (x6)), some (ii (x7)), none] [] (cz z)) (he0 : ∀ (x4 : Int) (x5 : Int) (z : Z) (c : Nat) (s : Nat), P (.inr (.inl (x4, x5, z, c, s))) → Wz z → R32 x4 → R32 x5 → J mX5_args (9 + n + 1) c s post 177 [some (vr (some t0)), some (ii (x1)), some (ii (x2)), none, some (ii (x4)), some (ii (x5)), none, none, none] [] (cz z)) (he1 : ∀ (z : Z) (c : Nat) (s : Nat), P (.inr (.inr (z, c, s))) → Wz z → J mX5_args (9 + n + 1) c s post 160 [none, none, none, none, none, none, none, none, none] [] (cz z)) (H : F_X5_args_66 R_X5_args R_X5_atom R_X5_bracketed R_X5_expression R_X5_signed R_X5_word t0 x1 x2 x3 x4 x5 x7 x8 z c s P) : J mX5_args (9 + n + 1) c s (post) 66 [some (vr (some t0)), some (ii (x1)), some (ii (x2)), some (ii (x3)), some (ii (x4)), some (ii (x5)), none, some (ii (x7)), some (ii (x8))] [] (cz z) := by
  unfold F_X5_args_66 at H
  refine j_aload_n (dk dt_X5_args 32 rfl) rfl ?_
  refine j_iconst (v := Int32.ofInt 1) (dk dt_X5_args 33 rfl) (by decide) ?_
  refine j_iload_n (dk dt_X5_args 34 rfl) rfl ?_
  obtain ⟨k_69, H⟩ := H
  obtain ⟨c_69, s_69, hc_69, hs_69, H⟩ := H
  refine jz_callV2 (dk dt_X5_args 35 rfl) vl_X5_115 rfl (ih_X5_expression (by decide) r_x3 hw H) k_69 rfl (by omega) hc_69 hs_69 (Nat.le_of_ble_eq_true rfl) (fun v_69 h_69 P_69 => ?_)
  obtain ⟨z_69, rfl, rfl, w_69, H⟩ := P_69
  dsimp only [rs]
  exact j_el (T_X5_args_72 r_x1 r_x2 r_x3 r_x4 r_x5 r_x7 r_x8 w_69 ih_X5_args ih_X5_atom ih_X5_bracketed ih_X5_expression ih_X5_signed ih_X5_word hl he0 he1 H) (And.intro rfl (And.intro rfl (And.intro rfl (And.intro rfl (And.intro rfl (And.intro rfl (And.intro rfl (And.intro rfl trivial))))))))
def L_X5_args_12 (R_X5_args : Nat → Int → Int → Int → Z → Nat → Nat → (Z → Prop) → Prop) (R_X5_atom : Nat → Int → Z → Nat → Nat → (Z → Prop) → Prop) (R_X5_bracketed : Nat → Int → Z → Nat → Nat → (Z → Prop) → Prop) (R_X5_expression : Nat → Int → Int → Z → Nat → Nat → (Z → Prop) → Prop) (R_X5_signed : Nat → Int → Z → Nat → Nat → (Z → Prop) → Prop) (R_X5_word : Nat → Int → Z → Nat → Nat → (Z → Prop) → Prop) (t0 : Nat) (x1 : Int) (x2 : Int) (x3 : Int) (x4 : Int) (x5 : Int) (x6 : Int) (x7 : Int) (z : Z) (c : Nat) (s : Nat) (P : (Int × Int × Int × Int × Z × Nat × Nat) ⊕ ((Int × Int × Z × Nat × Nat) ⊕ (Z × Nat × Nat)) → Prop) : Prop :=
  (if 400 ≤ x7 then P (.inr (.inl (x4, x5, z, c, s))) else (if x6 = 0 then P (.inr (.inl (x4, x5, z, c, s))) else (zK z t0 = 6 ∧ F_X5_skipBlanks t0 z (fun z_32 => (zK z_32 t0 = 6 ∧ F_X5_isCorner t0 (zI z_32 t0 9) z_32 (fun x_40 z_40 => (if x_40 = 0 then F_X5_args_66 R_X5_args R_X5_atom R_X5_bracketed R_X5_expression R_X5_signed R_X5_word t0 x1 x2 x3 x4 x5 x7 (zI z t0 10) z_40 c s P else (zK z_40 t0 = 6 ∧ F_X5_byteAt t0 (zI z_40 t0 16) z_40 (fun x_51 => (if x_51 = 58 then (∃ c_60 s_60, c_60 ≤ c ∧ s_60 ≤ s ∧ F_X5_area t0 z_40 c_60 s_60 (fun z_60 => F_X5_args_72 R_X5_args R_X5_atom R_X5_bracketed R_X5_expression R_X5_signed R_X5_word t0 x1 x2 x3 x4 x5 x7 (zI z t0 10) z_60 (c - c_60) (s - s_60) P)) else F_X5_args_66 R_X5_args R_X5_atom R_X5_bracketed R_X5_expression R_X5_signed R_X5_word t0 x1 x2 x3 x4 x5 x7 (zI z t0 10) z_40 c s P))))))))))
theorem U_X5_args_12 {n : Nat} {R_X5_args : Nat → Int → Int → Int → Z → Nat → Nat → (Z → Prop) → Prop} {R_X5_atom : Nat → Int → Z → Nat → Nat → (Z → Prop) → Prop} {R_X5_bracketed : Nat → Int → Z → Nat → Nat → (Z → Prop) → Prop} {R_X5_expression : Nat → Int → Int → Z → Nat → Nat → (Z → Prop) → Prop} {R_X5_signed : Nat → Int → Z → Nat → Nat → (Z → Prop) → Prop} {R_X5_word : Nat → Int → Z → Nat → Nat → (Z → Prop) → Prop} {t0 : Nat} {x1 : Int} {x2 : Int} {x3 : Int} {x4 : Int} {x5 : Int} {x6 : Int} {x7 : Int} {z : Z} {c : Nat} {s : Nat} {P : (Int × Int × Int × Int × Z × Nat × Nat) ⊕ ((Int × Int × Z × Nat × Nat) ⊕ (Z × Nat × Nat)) → Prop} {post : Option Sv ⊕ String → Hp → Prop} (r_x1 : R32 x1) (r_x2 : R32 x2) (r_x3 : R32 x3) (r_x4 : R32 x4) (r_x5 : R32 x5) (r_x6 : R32 x6) (r_x7 : R32 x7) (hw : Wz z) (ih_X5_args : ∀ {t0 : Nat} {x1 : Int} {x2 : Int} {x3 : Int} {z : Z} {c : Nat} {s : Nat} {P : Z → Prop}, R32 x1 → R32 x2 → R32 x3 → Wz z → R_X5_args t0 x1 x2 x3 z c s P → Con mX5_args (9 + n) c s [vr (some t0), ii (x1), ii (x2), ii (x3)] (cz z) (QZV P)) (ih_X5_atom : ∀ {t0 : Nat} {x1 : Int} {z : Z} {c : Nat} {s : Nat} {P : Z → Prop}, R32 x1 → Wz z → R_X5_atom t0 x1 z c s P → Con mX5_atom (9 + n) c s [vr (some t0), ii (x1)] (cz z) (QZV P)) (ih_X5_bracketed : ∀ {t0 : Nat} {x1 : Int} {z : Z} {c : Nat} {s : Nat} {P : Z → Prop}, R32 x1 → Wz z → R_X5_bracketed t0 x1 z c s P → Con mX5_bracketed (9 + n) c s [vr (some t0), ii (x1)] (cz z) (QZV P)) (ih_X5_expression : ∀ {t0 : Nat} {x1 : Int} {x2 : Int} {z : Z} {c : Nat} {s : Nat} {P : Z → Prop}, R32 x1 → R32 x2 → Wz z → R_X5_expression t0 x1 x2 z c s P → Con mX5_expression (9 + n) c s [vr (some t0), ii (x1), ii (x2)] (cz z) (QZV P)) (ih_X5_signed : ∀ {t0 : Nat} {x1 : Int} {z : Z} {c : Nat} {s : Nat} {P : Z → Prop}, R32 x1 → Wz z → R_X5_signed t0 x1 z c s P → Con mX5_signed (9 + n) c s [vr (some t0), ii (x1)] (cz z) (QZV P)) (ih_X5_word : ∀ {t0 : Nat} {x1 : Int} {z : Z} {c : Nat} {s : Nat} {P : Z → Prop}, R32 x1 → Wz z → R_X5_word t0 x1 z c s P → Con mX5_word (9 + n) c s [vr (some t0), ii (x1)] (cz z) (QZV P)) (hl : ∀ (x4 : Int) (x5 : Int) (x6 : Int) (x7 : Int) (z : Z) (c : Nat) (s : Nat), P (.inl (x4, x5, x6, x7, z, c, s)) → Wz z → R32 x4 → R32 x5 → R32 x6 → R32 x7 → J mX5_args (9 + n + 1) c s post 12 [some (vr (some t0)), some (ii (x1)), some (ii (x2)), some (ii (x3)), some (ii (x4)), some (ii (x5)), some (ii (x6)), some (ii (x7)), none] [] (cz z)) (he0 : ∀ (x4 : Int) (x5 : Int) (z : Z) (c : Nat) (s : Nat), P (.inr (.inl (x4, x5, z, c, s))) → Wz z → R32 x4 → R32 x5 → J mX5_args (9 + n + 1) c s post 177 [some (vr (some t0)), some (ii (x1)), some (ii (x2)), none, some (ii (x4)), some (ii (x5)), none, none, none] [] (cz z)) (he1 : ∀ (z : Z) (c : Nat) (s : Nat), P (.inr (.inr (z, c, s))) → Wz z → J mX5_args (9 + n + 1) c s post 160 [none, none, none, none, none, none, none, none, none] [] (cz z)) (H : L_X5_args_12 R_X5_args R_X5_atom R_X5_bracketed R_X5_expression R_X5_signed R_X5_word t0 x1 x2 x3 x4 x5 x6 x7 z c s P) : J mX5_args (9 + n + 1) c s post 12 [some (vr (some t0)), some (ii (x1)), some (ii (x2)), some (ii (x3)), some (ii (x4)), some (ii (x5)), some (ii (x6)), some (ii (x7)), none] [] (cz z) := by
  unfold L_X5_args_12 at H
  refine j_iload (dk dt_X5_args 8 rfl) rfl ?_
  refine j_sipush (v := Int32.ofInt 400) (dk dt_X5_args 9 rfl) (by decide) ?_
  refine jz_icmp_ge 177 (dk dt_X5_args 10 rfl) (by decide) r_x7 (by decide) H (fun H => ?_) (fun H => ?_)
  · exact j_el (he0 _ _ _ _ _ H hw r_x4 r_x5) (And.intro rfl (And.intro rfl (And.intro rfl (And.intro rfl (And.intro rfl trivial)))))
  · refine j_iload (dk dt_X5_args 11 rfl) rfl ?_
    refine jz_if_eq 177 (dk dt_X5_args 12 rfl) (by decide) r_x6 H (fun H => ?_) (fun H => ?_)
    · exact j_el (he0 _ _ _ _ _ H hw r_x4 r_x5) (And.intro rfl (And.intro rfl (And.intro rfl (And.intro rfl (And.intro rfl trivial)))))
    · refine j_aload_n (dk dt_X5_args 13 rfl) rfl ?_
      obtain ⟨k_26, H⟩ := H
      refine jz_getI (kz := 10) (dk dt_X5_args 14 rfl) fl_X5_109 rfl rfl rfl k_26 ?_
      refine j_istore (dk dt_X5_args 15 rfl) (by decide) ?_
      refine j_aload_n (dk dt_X5_args 16 rfl) rfl ?_
      refine jz_callV0 (dk dt_X5_args 17 rfl) vl_X5_118 rfl (T_X5_skipBlanks hw H) k_26 rfl (by omega) (Nat.zero_le _) (Nat.zero_le _) (Nat.le_of_ble_eq_true rfl) (fun v_32 h_32 P_32 => ?_)
      obtain ⟨z_32, rfl, rfl, w_32, H⟩ := P_32
      dsimp only [rs]
      refine j_aload_n (dk dt_X5_args 18 rfl) rfl ?_
      refine j_aload_n (dk dt_X5_args 19 rfl) rfl ?_
      obtain ⟨k_37, H⟩ := H
      refine jz_getI (kz := 9) (dk dt_X5_args 20 rfl) fl_X5_112 rfl rfl rfl k_37 ?_
      refine jz_callV1 (dk dt_X5_args 21 rfl) vl_X5_173 rfl (T_X5_isCorner (w_32.1 _ _) w_32 H) k_37 rfl (by omega) (Nat.zero_le _) (Nat.zero_le _) (Nat.le_of_ble_eq_true rfl) (fun v_40 h_40 P_40 => ?_)
      obtain ⟨x_40, z_40, rfl, r_40, rfl, w_40, H⟩ := P_40
      dsimp only [rs]
      refine jz_if_eq 66 (dk dt_X5_args 22 rfl) (by decide) r_40 H (fun H => ?_) (fun H => ?_)
      · exact j_el (T_X5_args_66 r_x1 r_x2 r_x3 r_x4 r_x5 r_x7 (hw.1 _ _) w_40 ih_X5_args ih_X5_atom ih_X5_bracketed ih_X5_expression ih_X5_signed ih_X5_word hl he0 he1 H) (And.intro rfl (And.intro rfl (And.intro rfl (And.intro rfl (And.intro rfl (And.intro rfl (And.intro rfl (And.intro rfl trivial))))))))
      · refine j_aload_n (dk dt_X5_args 23 rfl) rfl ?_
        refine j_aload_n (dk dt_X5_args 24 rfl) rfl ?_
        obtain ⟨k_48, H⟩ := H
        refine jz_getI (kz := 16) (dk dt_X5_args 25 rfl) fl_X5_200 rfl rfl rfl k_48 ?_
        refine jz_callV1 (dk dt_X5_args 26 rfl) vl_X5_146 rfl (T_X5_byteAt (w_40.1 _ _) w_40 H) k_48 rfl (by omega) (Nat.zero_le _) (Nat.zero_le _) (Nat.le_of_ble_eq_true rfl) (fun v_51 h_51 P_51 => ?_)
        obtain ⟨x_51, rfl, r_51, rfl, H⟩ := P_51
        dsimp only [rs]
        refine j_bipush (v := Int32.ofInt 58) (dk dt_X5_args 27 rfl) (by decide) ?_
        refine jz_icmp_ne 66 (dk dt_X5_args 28 rfl) (by decide) r_51 (by decide) H (fun H => ?_) (fun H => ?_)
        · refine j_aload_n (dk dt_X5_args 29 rfl) rfl ?_
          obtain ⟨c_60, s_60, hc_60, hs_60, H⟩ := H
          refine jz_callV0 (dk dt_X5_args 30 rfl) vl_X5_262 rfl (T_X5_area w_40 H) k_48 rfl (by omega) hc_60 hs_60 (Nat.le_of_ble_eq_true rfl) (fun v_60 h_60 P_60 => ?_)
          obtain ⟨z_60, rfl, rfl, w_60, H⟩ := P_60
          dsimp only [rs]
          refine j_goto 72 (dk dt_X5_args 31 rfl) (by decide) ?_
          exact j_el (T_X5_args_72 r_x1 r_x2 r_x3 r_x4 r_x5 r_x7 (hw.1 _ _) w_60 ih_X5_args ih_X5_atom ih_X5_bracketed ih_X5_expression ih_X5_signed ih_X5_word hl he0 he1 H) (And.intro rfl (And.intro rfl (And.intro rfl (And.intro rfl (And.intro rfl (And.intro rfl (And.intro rfl (And.intro rfl trivial))))))))
        · exact j_el (T_X5_args_66 r_x1 r_x2 r_x3 r_x4 r_x5 r_x7 (hw.1 _ _) w_40 ih_X5_args ih_X5_atom ih_X5_bracketed ih_X5_expression ih_X5_signed ih_X5_word hl he0 he1 H) (And.intro rfl (And.intro rfl (And.intro rfl (And.intro rfl (And.intro rfl (And.intro rfl (And.intro rfl (And.intro rfl trivial))))))))
def F_X5_args_194 (R_X5_args : Nat → Int → Int → Int → Z → Nat → Nat → (Z → Prop) → Prop) (R_X5_atom : Nat → Int → Z → Nat → Nat → (Z → Prop) → Prop) (R_X5_bracketed : Nat → Int → Z → Nat → Nat → (Z → Prop) → Prop) (R_X5_expression : Nat → Int → Int → Z → Nat → Nat → (Z → Prop) → Prop) (R_X5_signed : Nat → Int → Z → Nat → Nat → (Z → Prop) → Prop) (R_X5_word : Nat → Int → Z → Nat → Nat → (Z → Prop) → Prop) (t0 : Nat) (x1 : Int) (x5 : Int) (z : Z) (c : Nat) (s : Nat) (P : Z → Prop) : Prop :=
  (zK z t0 = 6 ∧ (∃ c_199 s_199, c_199 ≤ c ∧ s_199 ≤ s ∧ F_X5_addPart t0 x1 x5 none z c_199 s_199 (fun z_199 => P z_199)))
theorem T_X5_args_194 {n : Nat} {R_X5_args : Nat → Int → Int → Int → Z → Nat → Nat → (Z → Prop) → Prop} {R_X5_atom : Nat → Int → Z → Nat → Nat → (Z → Prop) → Prop} {R_X5_bracketed : Nat → Int → Z → Nat → Nat → (Z → Prop) → Prop} {R_X5_expression : Nat → Int → Int → Z → Nat → Nat → (Z → Prop) → Prop} {R_X5_signed : Nat → Int → Z → Nat → Nat → (Z → Prop) → Prop} {R_X5_word : Nat → Int → Z → Nat → Nat → (Z → Prop) → Prop} {t0 : Nat} {x1 : Int} {x5 : Int} {z : Z} {c : Nat} {s : Nat} {P : Z → Prop} (r_x1 : R32 x1) (r_x5 : R32 x5) (hw : Wz z) (ih_X5_args : ∀ {t0 : Nat} {x1 : Int} {x2 : Int} {x3 : Int} {z : Z} {c : Nat} {s : Nat} {P : Z → Prop}, R32 x1 → R32 x2 → R32 x3 → Wz z → R_X5_args t0 x1 x2 x3 z c s P → Con mX5_args (9 + n) c s [vr (some t0), ii (x1), ii (x2), ii (x3)] (cz z) (QZV P)) (ih_X5_atom : ∀ {t0 : Nat} {x1 : Int} {z : Z} {c : Nat} {s : Nat} {P : Z → Prop}, R32 x1 → Wz z → R_X5_atom t0 x1 z c s P → Con mX5_atom (9 + n) c s [vr (some t0), ii (x1)] (cz z) (QZV P)) (ih_X5_bracketed : ∀ {t0 : Nat} {x1 : Int} {z : Z} {c : Nat} {s : Nat} {P : Z → Prop}, R32 x1 → Wz z → R_X5_bracketed t0 x1 z c s P → Con mX5_bracketed (9 + n) c s [vr (some t0), ii (x1)] (cz z) (QZV P)) (ih_X5_expression : ∀ {t0 : Nat} {x1 : Int} {x2 : Int} {z : Z} {c : Nat} {s : Nat} {P : Z → Prop}, R32 x1 → R32 x2 → Wz z → R_X5_expression t0 x1 x2 z c s P → Con mX5_expression (9 + n) c s [vr (some t0), ii (x1), ii (x2)] (cz z) (QZV P)) (ih_X5_signed : ∀ {t0 : Nat} {x1 : Int} {z : Z} {c : Nat} {s : Nat} {P : Z → Prop}, R32 x1 → Wz z → R_X5_signed t0 x1 z c s P → Con mX5_signed (9 + n) c s [vr (some t0), ii (x1)] (cz z) (QZV P)) (ih_X5_word : ∀ {t0 : Nat} {x1 : Int} {z : Z} {c : Nat} {s : Nat} {P : Z → Prop}, R32 x1 → Wz z → R_X5_word t0 x1 z c s P → Con mX5_word (9 + n) c s [vr (some t0), ii (x1)] (cz z) (QZV P))  (H : F_X5_args_194 R_X5_args R_X5_atom R_X5_bracketed R_X5_expression R_X5_signed R_X5_word t0 x1 x5 z c s P) : J mX5_args (9 + n + 1) c s (nx (QZV P)) 194 [some (vr (some t0)), some (ii (x1)), none, none, none, some (ii (x5)), none, none, none] [] (cz z) := by
  unfold F_X5_args_194 at H
  refine j_aload_n (dk dt_X5_args 98 rfl) rfl ?_
  refine j_iload_n (dk dt_X5_args 99 rfl) rfl ?_
  refine j_iload (dk dt_X5_args 100 rfl) rfl ?_
  refine j_null (dk dt_X5_args 101 rfl) ?_
  obtain ⟨k_199, H⟩ := H
  obtain ⟨c_199, s_199, hc_199, hs_199, H⟩ := H
  refine jz_callV3 (dk dt_X5_args 102 rfl) vl_X5_143 rfl (T_X5_addPart r_x1 r_x5 hw H) k_199 rfl (by omega) hc_199 hs_199 (Nat.le_of_ble_eq_true rfl) (fun v_199 h_199 P_199 => ?_)
  obtain ⟨z_199, rfl, rfl, w_199, H⟩ := P_199
  dsimp only [rs]
  exact j_return (dk dt_X5_args 103 rfl) rfl ⟨_, rfl, rfl, w_199, H⟩
def F_X5_args_177 (R_X5_args : Nat → Int → Int → Int → Z → Nat → Nat → (Z → Prop) → Prop) (R_X5_atom : Nat → Int → Z → Nat → Nat → (Z → Prop) → Prop) (R_X5_bracketed : Nat → Int → Z → Nat → Nat → (Z → Prop) → Prop) (R_X5_expression : Nat → Int → Int → Z → Nat → Nat → (Z → Prop) → Prop) (R_X5_signed : Nat → Int → Z → Nat → Nat → (Z → Prop) → Prop) (R_X5_word : Nat → Int → Z → Nat → Nat → (Z → Prop) → Prop) (t0 : Nat) (x1 : Int) (x2 : Int) (x4 : Int) (x5 : Int) (z : Z) (c : Nat) (s : Nat) (P : Z → Prop) : Prop :=
  F_X5_fits x1 x5 x4 z (fun x_182 => (if x_182 = 0 then (zK z t0 = 6 ∧ F_X5_failLate t0 4 x2 z (fun z_191 => F_X5_args_194 R_X5_args R_X5_atom R_X5_bracketed R_X5_expression R_X5_signed R_X5_word t0 x1 x5 z_191 c s P)) else F_X5_args_194 R_X5_args R_X5_atom R_X5_bracketed R_X5_expression R_X5_signed R_X5_word t0 x1 x5 z c s P))
theorem T_X5_args_177 {n : Nat} {R_X5_args : Nat → Int → Int → Int → Z → Nat → Nat → (Z → Prop) → Prop} {R_X5_atom : Nat → Int → Z → Nat → Nat → (Z → Prop) → Prop} {R_X5_bracketed : Nat → Int → Z → Nat → Nat → (Z → Prop) → Prop} {R_X5_expression : Nat → Int → Int → Z → Nat → Nat → (Z → Prop) → Prop} {R_X5_signed : Nat → Int → Z → Nat → Nat → (Z → Prop) → Prop} {R_X5_word : Nat → Int → Z → Nat → Nat → (Z → Prop) → Prop} {t0 : Nat} {x1 : Int} {x2 : Int} {x4 : Int} {x5 : Int} {z : Z} {c : Nat} {s : Nat} {P : Z → Prop} (r_x1 : R32 x1) (r_x2 : R32 x2) (r_x4 : R32 x4) (r_x5 : R32 x5) (hw : Wz z) (ih_X5_args : ∀ {t0 : Nat} {x1 : Int} {x2 : Int} {x3 : Int} {z : Z} {c : Nat} {s : Nat} {P : Z → Prop}, R32 x1 → R32 x2 → R32 x3 → Wz z → R_X5_args t0 x1 x2 x3 z c s P → Con mX5_args (9 + n) c s [vr (some t0), ii (x1), ii (x2), ii (x3)] (cz z) (QZV P)) (ih_X5_atom : ∀ {t0 : Nat} {x1 : Int} {z : Z} {c : Nat} {s : Nat} {P : Z → Prop}, R32 x1 → Wz z → R_X5_atom t0 x1 z c s P → Con mX5_atom (9 + n) c s [vr (some t0), ii (x1)] (cz z) (QZV P)) (ih_X5_bracketed : ∀ {t0 : Nat} {x1 : Int} {z : Z} {c : Nat} {s : Nat} {P : Z → Prop}, R32 x1 → Wz z → R_X5_bracketed t0 x1 z c s P → Con mX5_bracketed (9 + n) c s [vr (some t0), ii (x1)] (cz z) (QZV P)) (ih_X5_expression : ∀ {t0 : Nat} {x1 : Int} {x2 : Int} {z : Z} {c : Nat} {s : Nat} {P : Z → Prop}, R32 x1 → R32 x2 → Wz z → R_X5_expression t0 x1 x2 z c s P → Con mX5_expression (9 + n) c s [vr (some t0), ii (x1), ii (x2)] (cz z) (QZV P)) (ih_X5_signed : ∀ {t0 : Nat} {x1 : Int} {z : Z} {c : Nat} {s : Nat} {P : Z → Prop}, R32 x1 → Wz z → R_X5_signed t0 x1 z c s P → Con mX5_signed (9 + n) c s [vr (some t0), ii (x1)] (cz z) (QZV P)) (ih_X5_word : ∀ {t0 : Nat} {x1 : Int} {z : Z} {c : Nat} {s : Nat} {P : Z → Prop}, R32 x1 → Wz z → R_X5_word t0 x1 z c s P → Con mX5_word (9 + n) c s [vr (some t0), ii (x1)] (cz z) (QZV P))  (H : F_X5_args_177 R_X5_args R_X5_atom R_X5_bracketed R_X5_expression R_X5_signed R_X5_word t0 x1 x2 x4 x5 z c s P) : J mX5_args (9 + n + 1) c s (nx (QZV P)) 177 [some (vr (some t0)), some (ii (x1)), some (ii (x2)), none, some (ii (x4)), some (ii (x5)), none, none, none] [] (cz z) := by
  unfold F_X5_args_177 at H
  refine j_iload_n (dk dt_X5_args 89 rfl) rfl ?_
  refine j_iload (dk dt_X5_args 90 rfl) rfl ?_
  refine j_iload (dk dt_X5_args 91 rfl) rfl ?_
  refine j_callS3 (dk dt_X5_args 92 rfl) sl_X5_268 (T_X5_fits r_x1 r_x5 r_x4 hw H) rfl (by omega) (Nat.zero_le _) (Nat.zero_le _) (Nat.le_of_ble_eq_true rfl) (fun v_182 h_182 P_182 => ?_)
  obtain ⟨x_182, rfl, r_182, rfl, H⟩ := P_182
  dsimp only [rs]
  refine jz_if_ne 194 (dk dt_X5_args 93 rfl) (by decide) r_182 H (fun H => ?_) (fun H => ?_)
  · refine j_aload_n (dk dt_X5_args 94 rfl) rfl ?_
    refine j_iconst (v := Int32.ofInt 4) (dk dt_X5_args 95 rfl) (by decide) ?_
    refine j_iload_n (dk dt_X5_args 96 rfl) rfl ?_
    obtain ⟨k_191, H⟩ := H
    refine jz_callV2 (dk dt_X5_args 97 rfl) vl_X5_243 rfl (T_X5_failLate (by decide) r_x2 hw H) k_191 rfl (by omega) (Nat.zero_le _) (Nat.zero_le _) (Nat.le_of_ble_eq_true rfl) (fun v_191 h_191 P_191 => ?_)
    obtain ⟨z_191, rfl, rfl, w_191, H⟩ := P_191
    dsimp only [rs]
    exact j_el (T_X5_args_194 r_x1 r_x5 w_191 ih_X5_args ih_X5_atom ih_X5_bracketed ih_X5_expression ih_X5_signed ih_X5_word  H) (And.intro rfl (And.intro rfl (And.intro rfl trivial)))
  · exact j_el (T_X5_args_194 r_x1 r_x5 hw ih_X5_args ih_X5_atom ih_X5_bracketed ih_X5_expression ih_X5_signed ih_X5_word  H) (And.intro rfl (And.intro rfl (And.intro rfl trivial)))
def F_X5_args_12 (R_X5_args : Nat → Int → Int → Int → Z → Nat → Nat → (Z → Prop) → Prop) (R_X5_atom : Nat → Int → Z → Nat → Nat → (Z → Prop) → Prop) (R_X5_bracketed : Nat → Int → Z → Nat → Nat → (Z → Prop) → Prop) (R_X5_expression : Nat → Int → Int → Z → Nat → Nat → (Z → Prop) → Prop) (R_X5_signed : Nat → Int → Z → Nat → Nat → (Z → Prop) → Prop) (R_X5_word : Nat → Int → Z → Nat → Nat → (Z → Prop) → Prop) (t0 : Nat) (x1 : Int) (x2 : Int) (x3 : Int) (x4 : Int) (x5 : Int) (x6 : Int) (x7 : Int) (z : Z) (c : Nat) (s : Nat) (P : Z → Prop) : Prop :=
  lp (S := Int × Int × Int × Int × Z × Nat × Nat) (E := (Int × Int × Z × Nat × Nat) ⊕ (Z × Nat × Nat)) (fun q P_ => L_X5_args_12 R_X5_args R_X5_atom R_X5_bracketed R_X5_expression R_X5_signed R_X5_word t0 x1 x2 x3 q.1 q.2.1 q.2.2.1 q.2.2.2.1 q.2.2.2.2.1 q.2.2.2.2.2.1 q.2.2.2.2.2.2 P_) (x4, x5, x6, x7, z, c, s) (fun e => match e with | (.inl (x4, x5, z, c, s)) => F_X5_args_177 R_X5_args R_X5_atom R_X5_bracketed R_X5_expression R_X5_signed R_X5_word t0 x1 x2 x4 x5 z c s P | (.inr (z, c, s)) => P z)
theorem T_X5_args_12 {n : Nat} {R_X5_args : Nat → Int → Int → Int → Z → Nat → Nat → (Z → Prop) → Prop} {R_X5_atom : Nat → Int → Z → Nat → Nat → (Z → Prop) → Prop} {R_X5_bracketed : Nat → Int → Z → Nat → Nat → (Z → Prop) → Prop} {R_X5_expression : Nat → Int → Int → Z → Nat → Nat → (Z → Prop) → Prop} {R_X5_signed : Nat → Int → Z → Nat → Nat → (Z → Prop) → Prop} {R_X5_word : Nat → Int → Z → Nat → Nat → (Z → Prop) → Prop} {t0 : Nat} {x1 : Int} {x2 : Int} {x3 : Int} {x4 : Int} {x5 : Int} {x6 : Int} {x7 : Int} {z : Z} {c : Nat} {s : Nat} {P : Z → Prop} (r_x1 : R32 x1) (r_x2 : R32 x2) (r_x3 : R32 x3) (r_x4 : R32 x4) (r_x5 : R32 x5) (r_x6 : R32 x6) (r_x7 : R32 x7) (hw : Wz z) (ih_X5_args : ∀ {t0 : Nat} {x1 : Int} {x2 : Int} {x3 : Int} {z : Z} {c : Nat} {s : Nat} {P : Z → Prop}, R32 x1 → R32 x2 → R32 x3 → Wz z → R_X5_args t0 x1 x2 x3 z c s P → Con mX5_args (9 + n) c s [vr (some t0), ii (x1), ii (x2), ii (x3)] (cz z) (QZV P)) (ih_X5_atom : ∀ {t0 : Nat} {x1 : Int} {z : Z} {c : Nat} {s : Nat} {P : Z → Prop}, R32 x1 → Wz z → R_X5_atom t0 x1 z c s P → Con mX5_atom (9 + n) c s [vr (some t0), ii (x1)] (cz z) (QZV P)) (ih_X5_bracketed : ∀ {t0 : Nat} {x1 : Int} {z : Z} {c : Nat} {s : Nat} {P : Z → Prop}, R32 x1 → Wz z → R_X5_bracketed t0 x1 z c s P → Con mX5_bracketed (9 + n) c s [vr (some t0), ii (x1)] (cz z) (QZV P)) (ih_X5_expression : ∀ {t0 : Nat} {x1 : Int} {x2 : Int} {z : Z} {c : Nat} {s : Nat} {P : Z → Prop}, R32 x1 → R32 x2 → Wz z → R_X5_expression t0 x1 x2 z c s P → Con mX5_expression (9 + n) c s [vr (some t0), ii (x1), ii (x2)] (cz z) (QZV P)) (ih_X5_signed : ∀ {t0 : Nat} {x1 : Int} {z : Z} {c : Nat} {s : Nat} {P : Z → Prop}, R32 x1 → Wz z → R_X5_signed t0 x1 z c s P → Con mX5_signed (9 + n) c s [vr (some t0), ii (x1)] (cz z) (QZV P)) (ih_X5_word : ∀ {t0 : Nat} {x1 : Int} {z : Z} {c : Nat} {s : Nat} {P : Z → Prop}, R32 x1 → Wz z → R_X5_word t0 x1 z c s P → Con mX5_word (9 + n) c s [vr (some t0), ii (x1)] (cz z) (QZV P))  (H : F_X5_args_12 R_X5_args R_X5_atom R_X5_bracketed R_X5_expression R_X5_signed R_X5_word t0 x1 x2 x3 x4 x5 x6 x7 z c s P) : J mX5_args (9 + n + 1) c s (nx (QZV P)) 12 [some (vr (some t0)), some (ii (x1)), some (ii (x2)), some (ii (x3)), some (ii (x4)), some (ii (x5)), some (ii (x6)), some (ii (x7)), none] [] (cz z) := by
  unfold F_X5_args_12 at H
  refine lp_J (G := fun q => Wz (q.2.2.2.2.1) → R32 (q.1) → R32 (q.2.1) → R32 (q.2.2.1) → R32 (q.2.2.2.1) → J mX5_args (9 + n + 1) (q.2.2.2.2.2.1) (q.2.2.2.2.2.2) (nx (QZV P)) 12 [some (vr (some t0)), some (ii (x1)), some (ii (x2)), some (ii (x3)), some (ii ((q.1))), some (ii ((q.2.1))), some (ii ((q.2.2.1))), some (ii ((q.2.2.2.1))), none] [] (cz (q.2.2.2.2.1))) (fun q P_ hl_ he_ Hb => ?_) (x4, x5, x6, x7, z, c, s) H hw r_x4 r_x5 r_x6 r_x7
  obtain ⟨x4, x5, x6, x7, z, c, s⟩ := q
  intro hw r_x4 r_x5 r_x6 r_x7
  refine U_X5_args_12 (P := P_) r_x1 r_x2 r_x3 r_x4 r_x5 r_x6 r_x7 hw ih_X5_args ih_X5_atom ih_X5_bracketed ih_X5_expression ih_X5_signed ih_X5_word (fun x4 x5 x6 x7 z c s Hp hw r_x4 r_x5 r_x6 r_x7 => hl_ (x4, x5, x6, x7, z, c, s) Hp hw r_x4 r_x5 r_x6 r_x7) ?_ ?_ Hb
  · intro x4 x5 z c s Hp hw r_x4 r_x5
    have H := he_ _ Hp
    exact j_el (T_X5_args_177 r_x1 r_x2 r_x4 r_x5 hw ih_X5_args ih_X5_atom ih_X5_bracketed ih_X5_expression ih_X5_signed ih_X5_word  H) (And.intro rfl (And.intro rfl (And.intro rfl (And.intro rfl (And.intro rfl trivial)))))
  · intro z c s Hp hw
    have H := he_ _ Hp
    exact j_return (dk dt_X5_args 80 rfl) rfl ⟨_, rfl, rfl, hw, H⟩
def B_X5_args (R_X5_args : Nat → Int → Int → Int → Z → Nat → Nat → (Z → Prop) → Prop) (R_X5_atom : Nat → Int → Z → Nat → Nat → (Z → Prop) → Prop) (R_X5_bracketed : Nat → Int → Z → Nat → Nat → (Z → Prop) → Prop) (R_X5_expression : Nat → Int → Int → Z → Nat → Nat → (Z → Prop) → Prop) (R_X5_signed : Nat → Int → Z → Nat → Nat → (Z → Prop) → Prop) (R_X5_word : Nat → Int → Z → Nat → Nat → (Z → Prop) → Prop) (t0 : Nat) (x1 : Int) (x2 : Int) (x3 : Int) (z : Z) (c : Nat) (s : Nat) (P : Z → Prop) : Prop :=
  F_X5_args_12 R_X5_args R_X5_atom R_X5_bracketed R_X5_expression R_X5_signed R_X5_word t0 x1 x2 x3 0 0 1 0 z c s P
theorem V_X5_args {n : Nat} {R_X5_args : Nat → Int → Int → Int → Z → Nat → Nat → (Z → Prop) → Prop} {R_X5_atom : Nat → Int → Z → Nat → Nat → (Z → Prop) → Prop} {R_X5_bracketed : Nat → Int → Z → Nat → Nat → (Z → Prop) → Prop} {R_X5_expression : Nat → Int → Int → Z → Nat → Nat → (Z → Prop) → Prop} {R_X5_signed : Nat → Int → Z → Nat → Nat → (Z → Prop) → Prop} {R_X5_word : Nat → Int → Z → Nat → Nat → (Z → Prop) → Prop} {t0 : Nat} {x1 : Int} {x2 : Int} {x3 : Int} {z : Z} {c : Nat} {s : Nat} {P : Z → Prop} (r_x1 : R32 x1) (r_x2 : R32 x2) (r_x3 : R32 x3) (hw : Wz z) (ih_X5_args : ∀ {t0 : Nat} {x1 : Int} {x2 : Int} {x3 : Int} {z : Z} {c : Nat} {s : Nat} {P : Z → Prop}, R32 x1 → R32 x2 → R32 x3 → Wz z → R_X5_args t0 x1 x2 x3 z c s P → Con mX5_args (9 + n) c s [vr (some t0), ii (x1), ii (x2), ii (x3)] (cz z) (QZV P)) (ih_X5_atom : ∀ {t0 : Nat} {x1 : Int} {z : Z} {c : Nat} {s : Nat} {P : Z → Prop}, R32 x1 → Wz z → R_X5_atom t0 x1 z c s P → Con mX5_atom (9 + n) c s [vr (some t0), ii (x1)] (cz z) (QZV P)) (ih_X5_bracketed : ∀ {t0 : Nat} {x1 : Int} {z : Z} {c : Nat} {s : Nat} {P : Z → Prop}, R32 x1 → Wz z → R_X5_bracketed t0 x1 z c s P → Con mX5_bracketed (9 + n) c s [vr (some t0), ii (x1)] (cz z) (QZV P)) (ih_X5_expression : ∀ {t0 : Nat} {x1 : Int} {x2 : Int} {z : Z} {c : Nat} {s : Nat} {P : Z → Prop}, R32 x1 → R32 x2 → Wz z → R_X5_expression t0 x1 x2 z c s P → Con mX5_expression (9 + n) c s [vr (some t0), ii (x1), ii (x2)] (cz z) (QZV P)) (ih_X5_signed : ∀ {t0 : Nat} {x1 : Int} {z : Z} {c : Nat} {s : Nat} {P : Z → Prop}, R32 x1 → Wz z → R_X5_signed t0 x1 z c s P → Con mX5_signed (9 + n) c s [vr (some t0), ii (x1)] (cz z) (QZV P)) (ih_X5_word : ∀ {t0 : Nat} {x1 : Int} {z : Z} {c : Nat} {s : Nat} {P : Z → Prop}, R32 x1 → Wz z → R_X5_word t0 x1 z c s P → Con mX5_word (9 + n) c s [vr (some t0), ii (x1)] (cz z) (QZV P)) (H : B_X5_args R_X5_args R_X5_atom R_X5_bracketed R_X5_expression R_X5_signed R_X5_word t0 x1 x2 x3 z c s P) : Con mX5_args (9 + n + 1) c s [vr (some t0), ii (x1), ii (x2), ii (x3)] (cz z) (QZV P) := by
  refine con_of rfl (Nat.le_of_ble_eq_true rfl) (by decide) ?_
  show J mX5_args (9 + n + 1) c s _ 0 [some (vr (some t0)), some (ii (x1)), some (ii (x2)), some (ii (x3)), none, none, none, none, none] [] (cz z)
  unfold B_X5_args at H
  refine j_iconst (v := Int32.ofInt 0) (dk dt_X5_args 0 rfl) (by decide) ?_
  refine j_istore (dk dt_X5_args 1 rfl) (by decide) ?_
  refine j_iconst (v := Int32.ofInt 0) (dk dt_X5_args 2 rfl) (by decide) ?_
  refine j_istore (dk dt_X5_args 3 rfl) (by decide) ?_
  refine j_iconst (v := Int32.ofInt 1) (dk dt_X5_args 4 rfl) (by decide) ?_
  refine j_istore (dk dt_X5_args 5 rfl) (by decide) ?_
  refine j_iconst (v := Int32.ofInt 0) (dk dt_X5_args 6 rfl) (by decide) ?_
  refine j_istore (dk dt_X5_args 7 rfl) (by decide) ?_
  exact j_el (T_X5_args_12 r_x1 r_x2 r_x3 (by decide) (by decide) (by decide) (by decide) hw ih_X5_args ih_X5_atom ih_X5_bracketed ih_X5_expression ih_X5_signed ih_X5_word  H) (And.intro rfl (And.intro rfl (And.intro rfl (And.intro rfl (And.intro rfl (And.intro rfl (And.intro rfl (And.intro rfl trivial))))))))
def F_X5_atom_150 (R_X5_args : Nat → Int → Int → Int → Z → Nat → Nat → (Z → Prop) → Prop) (R_X5_atom : Nat → Int → Z → Nat → Nat → (Z → Prop) → Prop) (R_X5_bracketed : Nat → Int → Z → Nat → Nat → (Z → Prop) → Prop) (R_X5_expression : Nat → Int → Int → Z → Nat → Nat → (Z → Prop) → Prop) (R_X5_signed : Nat → Int → Z → Nat → Nat → (Z → Prop) → Prop) (R_X5_word : Nat → Int → Z → Nat → Nat → (Z → Prop) → Prop) (z : Z) (c : Nat) (s : Nat) (P : Z → Prop) : Prop :=
  P z
theorem T_X5_atom_150 {n : Nat} {R_X5_args : Nat → Int → Int → Int → Z → Nat → Nat → (Z → Prop) → Prop} {R_X5_atom : Nat → Int → Z → Nat → Nat → (Z → Prop) → Prop} {R_X5_bracketed : Nat → Int → Z → Nat → Nat → (Z → Prop) → Prop} {R_X5_expression : Nat → Int → Int → Z → Nat → Nat → (Z → Prop) → Prop} {R_X5_signed : Nat → Int → Z → Nat → Nat → (Z → Prop) → Prop} {R_X5_word : Nat → Int → Z → Nat → Nat → (Z → Prop) → Prop} {z : Z} {c : Nat} {s : Nat} {P : Z → Prop}  (hw : Wz z) (ih_X5_args : ∀ {t0 : Nat} {x1 : Int} {x2 : Int} {x3 : Int} {z : Z} {c : Nat} {s : Nat} {P : Z → Prop}, R32 x1 → R32 x2 → R32 x3 → Wz z → R_X5_args t0 x1 x2 x3 z c s P → Con mX5_args (9 + n) c s [vr (some t0), ii (x1), ii (x2), ii (x3)] (cz z) (QZV P)) (ih_X5_atom : ∀ {t0 : Nat} {x1 : Int} {z : Z} {c : Nat} {s : Nat} {P : Z → Prop}, R32 x1 → Wz z → R_X5_atom t0 x1 z c s P → Con mX5_atom (9 + n) c s [vr (some t0), ii (x1)] (cz z) (QZV P)) (ih_X5_bracketed : ∀ {t0 : Nat} {x1 : Int} {z : Z} {c : Nat} {s : Nat} {P : Z → Prop}, R32 x1 → Wz z → R_X5_bracketed t0 x1 z c s P → Con mX5_bracketed (9 + n) c s [vr (some t0), ii (x1)] (cz z) (QZV P)) (ih_X5_expression : ∀ {t0 : Nat} {x1 : Int} {x2 : Int} {z : Z} {c : Nat} {s : Nat} {P : Z → Prop}, R32 x1 → R32 x2 → Wz z → R_X5_expression t0 x1 x2 z c s P → Con mX5_expression (9 + n) c s [vr (some t0), ii (x1), ii (x2)] (cz z) (QZV P)) (ih_X5_signed : ∀ {t0 : Nat} {x1 : Int} {z : Z} {c : Nat} {s : Nat} {P : Z → Prop}, R32 x1 → Wz z → R_X5_signed t0 x1 z c s P → Con mX5_signed (9 + n) c s [vr (some t0), ii (x1)] (cz z) (QZV P)) (ih_X5_word : ∀ {t0 : Nat} {x1 : Int} {z : Z} {c : Nat} {s : Nat} {P : Z → Prop}, R32 x1 → Wz z → R_X5_word t0 x1 z c s P → Con mX5_word (9 + n) c s [vr (some t0), ii (x1)] (cz z) (QZV P))  (H : F_X5_atom_150 R_X5_args R_X5_atom R_X5_bracketed R_X5_expression R_X5_signed R_X5_word z c s P) : J mX5_atom (9 + n + 1) c s (nx (QZV P)) 150 [none, none, none] [] (cz z) := by
  unfold F_X5_atom_150 at H
  exact j_return (dk dt_X5_atom 75 rfl) rfl ⟨_, rfl, rfl, hw, H⟩
def F_X5_atom_94 (R_X5_args : Nat → Int → Int → Int → Z → Nat → Nat → (Z → Prop) → Prop) (R_X5_atom : Nat → Int → Z → Nat → Nat → (Z → Prop) → Prop) (R_X5_bracketed : Nat → Int → Z → Nat → Nat → (Z → Prop) → Prop) (R_X5_expression : Nat → Int → Int → Z → Nat → Nat → (Z → Prop) → Prop) (R_X5_signed : Nat → Int → Z → Nat → Nat → (Z → Prop) → Prop) (R_X5_word : Nat → Int → Z → Nat → Nat → (Z → Prop) → Prop) (t0 : Nat) (x1 : Int) (x2 : Int) (z : Z) (c : Nat) (s : Nat) (P : Z → Prop) : Prop :=
  (if x2 = 40 then (zK z t0 = 6 ∧ (∃ c_102 s_102, c_102 ≤ c ∧ s_102 ≤ s ∧ R_X5_bracketed t0 x1 z c_102 s_102 (fun z_102 => F_X5_atom_150 R_X5_args R_X5_atom R_X5_bracketed R_X5_expression R_X5_signed R_X5_word z_102 (c - c_102) (s - s_102) P))) else (zK z t0 = 6 ∧ F_X5_isCorner t0 (zI z t0 9) z (fun x_113 z_113 => (if x_113 = 0 then F_X11_isLetter x2 (fun x_127 => (if x_127 = 0 then (zK z_113 t0 = 6 ∧ F_X5_placeOrEnd t0 z_113 (fun x_144 => F_X5_fail t0 1 x_144 z_113 (fun z_147 => F_X5_atom_150 R_X5_args R_X5_atom R_X5_bracketed R_X5_expression R_X5_signed R_X5_word z_147 c s P))) else (zK z_113 t0 = 6 ∧ (∃ c_135 s_135, c_135 ≤ c ∧ s_135 ≤ s ∧ R_X5_word t0 x1 z_113 c_135 s_135 (fun z_135 => F_X5_atom_150 R_X5_args R_X5_atom R_X5_bracketed R_X5_expression R_X5_signed R_X5_word z_135 (c - c_135) (s - s_135) P))))) else (zK z_113 t0 = 6 ∧ (∃ c_120 s_120, c_120 ≤ c ∧ s_120 ≤ s ∧ F_X5_spot t0 z_113 c_120 s_120 (fun z_120 => F_X5_atom_150 R_X5_args R_X5_atom R_X5_bracketed R_X5_expression R_X5_signed R_X5_word z_120 (c - c_120) (s - s_120) P)))))))
theorem T_X5_atom_94 {n : Nat} {R_X5_args : Nat → Int → Int → Int → Z → Nat → Nat → (Z → Prop) → Prop} {R_X5_atom : Nat → Int → Z → Nat → Nat → (Z → Prop) → Prop} {R_X5_bracketed : Nat → Int → Z → Nat → Nat → (Z → Prop) → Prop} {R_X5_expression : Nat → Int → Int → Z → Nat → Nat → (Z → Prop) → Prop} {R_X5_signed : Nat → Int → Z → Nat → Nat → (Z → Prop) → Prop} {R_X5_word : Nat → Int → Z → Nat → Nat → (Z → Prop) → Prop} {t0 : Nat} {x1 : Int} {x2 : Int} {z : Z} {c : Nat} {s : Nat} {P : Z → Prop} (r_x1 : R32 x1) (r_x2 : R32 x2) (hw : Wz z) (ih_X5_args : ∀ {t0 : Nat} {x1 : Int} {x2 : Int} {x3 : Int} {z : Z} {c : Nat} {s : Nat} {P : Z → Prop}, R32 x1 → R32 x2 → R32 x3 → Wz z → R_X5_args t0 x1 x2 x3 z c s P → Con mX5_args (9 + n) c s [vr (some t0), ii (x1), ii (x2), ii (x3)] (cz z) (QZV P)) (ih_X5_atom : ∀ {t0 : Nat} {x1 : Int} {z : Z} {c : Nat} {s : Nat} {P : Z → Prop}, R32 x1 → Wz z → R_X5_atom t0 x1 z c s P → Con mX5_atom (9 + n) c s [vr (some t0), ii (x1)] (cz z) (QZV P)) (ih_X5_bracketed : ∀ {t0 : Nat} {x1 : Int} {z : Z} {c : Nat} {s : Nat} {P : Z → Prop}, R32 x1 → Wz z → R_X5_bracketed t0 x1 z c s P → Con mX5_bracketed (9 + n) c s [vr (some t0), ii (x1)] (cz z) (QZV P)) (ih_X5_expression : ∀ {t0 : Nat} {x1 : Int} {x2 : Int} {z : Z} {c : Nat} {s : Nat} {P : Z → Prop}, R32 x1 → R32 x2 → Wz z → R_X5_expression t0 x1 x2 z c s P → Con mX5_expression (9 + n) c s [vr (some t0), ii (x1), ii (x2)] (cz z) (QZV P)) (ih_X5_signed : ∀ {t0 : Nat} {x1 : Int} {z : Z} {c : Nat} {s : Nat} {P : Z → Prop}, R32 x1 → Wz z → R_X5_signed t0 x1 z c s P → Con mX5_signed (9 + n) c s [vr (some t0), ii (x1)] (cz z) (QZV P)) (ih_X5_word : ∀ {t0 : Nat} {x1 : Int} {z : Z} {c : Nat} {s : Nat} {P : Z → Prop}, R32 x1 → Wz z → R_X5_word t0 x1 z c s P → Con mX5_word (9 + n) c s [vr (some t0), ii (x1)] (cz z) (QZV P))  (H : F_X5_atom_94 R_X5_args R_X5_atom R_X5_bracketed R_X5_expression R_X5_signed R_X5_word t0 x1 x2 z c s P) : J mX5_atom (9 + n + 1) c s (nx (QZV P)) 94 [some (vr (some t0)), some (ii (x1)), some (ii (x2))] [] (cz z) := by
  unfold F_X5_atom_94 at H
  refine j_iload_n (dk dt_X5_atom 48 rfl) rfl ?_
  refine j_bipush (v := Int32.ofInt 40) (dk dt_X5_atom 49 rfl) (by decide) ?_
  refine jz_icmp_ne 108 (dk dt_X5_atom 50 rfl) (by decide) r_x2 (by decide) H (fun H => ?_) (fun H => ?_)
  · refine j_aload_n (dk dt_X5_atom 51 rfl) rfl ?_
    refine j_iload_n (dk dt_X5_atom 52 rfl) rfl ?_
    obtain ⟨k_102, H⟩ := H
    obtain ⟨c_102, s_102, hc_102, hs_102, H⟩ := H
    refine jz_callV1 (dk dt_X5_atom 53 rfl) vl_X5_170 rfl (ih_X5_bracketed r_x1 hw H) k_102 rfl (by omega) hc_102 hs_102 (Nat.le_of_ble_eq_true rfl) (fun v_102 h_102 P_102 => ?_)
    obtain ⟨z_102, rfl, rfl, w_102, H⟩ := P_102
    dsimp only [rs]
    refine j_goto 150 (dk dt_X5_atom 54 rfl) (by decide) ?_
    exact j_el (T_X5_atom_150  w_102 ih_X5_args ih_X5_atom ih_X5_bracketed ih_X5_expression ih_X5_signed ih_X5_word  H) trivial
  · refine j_aload_n (dk dt_X5_atom 55 rfl) rfl ?_
    refine j_aload_n (dk dt_X5_atom 56 rfl) rfl ?_
    obtain ⟨k_110, H⟩ := H
    refine jz_getI (kz := 9) (dk dt_X5_atom 57 rfl) fl_X5_112 rfl rfl rfl k_110 ?_
    refine jz_callV1 (dk dt_X5_atom 58 rfl) vl_X5_173 rfl (T_X5_isCorner (hw.1 _ _) hw H) k_110 rfl (by omega) (Nat.zero_le _) (Nat.zero_le _) (Nat.le_of_ble_eq_true rfl) (fun v_113 h_113 P_113 => ?_)
    obtain ⟨x_113, z_113, rfl, r_113, rfl, w_113, H⟩ := P_113
    dsimp only [rs]
    refine jz_if_eq 126 (dk dt_X5_atom 59 rfl) (by decide) r_113 H (fun H => ?_) (fun H => ?_)
    · refine j_iload_n (dk dt_X5_atom 63 rfl) rfl ?_
      refine j_callSN1 (dk dt_X5_atom 64 rfl) snl_X5_179 (T_X11_isLetter r_x2 H) rfl (by omega) (Nat.zero_le _) (Nat.zero_le _) (Nat.le_of_ble_eq_true rfl) (fun v_127 h_127 P_127 => ?_)
      obtain ⟨x_127, rfl, r_127, rfl, H⟩ := P_127
      dsimp only [rs]
      refine jz_if_eq 141 (dk dt_X5_atom 65 rfl) (by decide) r_127 H (fun H => ?_) (fun H => ?_)
      · refine j_aload_n (dk dt_X5_atom 70 rfl) rfl ?_
        refine j_iconst (v := Int32.ofInt 1) (dk dt_X5_atom 71 rfl) (by decide) ?_
        refine j_aload_n (dk dt_X5_atom 72 rfl) rfl ?_
        obtain ⟨k_144, H⟩ := H
        refine jz_callV0 (dk dt_X5_atom 73 rfl) vl_X5_185 rfl (T_X5_placeOrEnd w_113 H) k_144 rfl (by omega) (Nat.zero_le _) (Nat.zero_le _) (Nat.le_of_ble_eq_true rfl) (fun v_144 h_144 P_144 => ?_)
        obtain ⟨x_144, rfl, r_144, rfl, H⟩ := P_144
        dsimp only [rs]
        refine jz_callV2 (dk dt_X5_atom 74 rfl) vl_X5_62 rfl (T_X5_fail (by decide) r_144 w_113 H) k_144 rfl (by omega) (Nat.zero_le _) (Nat.zero_le _) (Nat.le_of_ble_eq_true rfl) (fun v_147 h_147 P_147 => ?_)
        obtain ⟨z_147, rfl, rfl, w_147, H⟩ := P_147
        dsimp only [rs]
        exact j_el (T_X5_atom_150  w_147 ih_X5_args ih_X5_atom ih_X5_bracketed ih_X5_expression ih_X5_signed ih_X5_word  H) trivial
      · refine j_aload_n (dk dt_X5_atom 66 rfl) rfl ?_
        refine j_iload_n (dk dt_X5_atom 67 rfl) rfl ?_
        obtain ⟨k_135, H⟩ := H
        obtain ⟨c_135, s_135, hc_135, hs_135, H⟩ := H
        refine jz_callV1 (dk dt_X5_atom 68 rfl) vl_X5_182 rfl (ih_X5_word r_x1 w_113 H) k_135 rfl (by omega) hc_135 hs_135 (Nat.le_of_ble_eq_true rfl) (fun v_135 h_135 P_135 => ?_)
        obtain ⟨z_135, rfl, rfl, w_135, H⟩ := P_135
        dsimp only [rs]
        refine j_goto 150 (dk dt_X5_atom 69 rfl) (by decide) ?_
        exact j_el (T_X5_atom_150  w_135 ih_X5_args ih_X5_atom ih_X5_bracketed ih_X5_expression ih_X5_signed ih_X5_word  H) trivial
    · refine j_aload_n (dk dt_X5_atom 60 rfl) rfl ?_
      obtain ⟨k_120, H⟩ := H
      obtain ⟨c_120, s_120, hc_120, hs_120, H⟩ := H
      refine jz_callV0 (dk dt_X5_atom 61 rfl) vl_X5_176 rfl (T_X5_spot w_113 H) k_120 rfl (by omega) hc_120 hs_120 (Nat.le_of_ble_eq_true rfl) (fun v_120 h_120 P_120 => ?_)
      obtain ⟨z_120, rfl, rfl, w_120, H⟩ := P_120
      dsimp only [rs]
      refine j_goto 150 (dk dt_X5_atom 62 rfl) (by decide) ?_
      exact j_el (T_X5_atom_150  w_120 ih_X5_args ih_X5_atom ih_X5_bracketed ih_X5_expression ih_X5_signed ih_X5_word  H) trivial
def B_X5_atom (R_X5_args : Nat → Int → Int → Int → Z → Nat → Nat → (Z → Prop) → Prop) (R_X5_atom : Nat → Int → Z → Nat → Nat → (Z → Prop) → Prop) (R_X5_bracketed : Nat → Int → Z → Nat → Nat → (Z → Prop) → Prop) (R_X5_expression : Nat → Int → Int → Z → Nat → Nat → (Z → Prop) → Prop) (R_X5_signed : Nat → Int → Z → Nat → Nat → (Z → Prop) → Prop) (R_X5_word : Nat → Int → Z → Nat → Nat → (Z → Prop) → Prop) (t0 : Nat) (x1 : Int) (z : Z) (c : Nat) (s : Nat) (P : Z → Prop) : Prop :=
  (zK z t0 = 6 ∧ F_X5_byteAt t0 (zI z t0 9) z (fun x_5 => F_X11_isDigit x_5 (fun x_10 => (if x_10 = 0 then (if x_5 = 34 then (∃ c_30 s_30, c_30 ≤ c ∧ s_30 ≤ s ∧ F_X5_quoted t0 z c_30 s_30 (fun z_30 => F_X5_atom_150 R_X5_args R_X5_atom R_X5_bracketed R_X5_expression R_X5_signed R_X5_word z_30 (c - c_30) (s - s_30) P)) else (if x_5 = 35 then F_X11_isWord (zO z t0 0) (w32 (zI z t0 9 + 1)) (min (w32 (zI z t0 9 + 4)) (zI z t0 8)) 7 z (fun x_67 => (if x_67 = 0 then F_X5_atom_94 R_X5_args R_X5_atom R_X5_bracketed R_X5_expression R_X5_signed R_X5_word t0 x1 x_5 z c s P else (∀ z_80, z_80 = wI z t0 9 (w32 (zI z t0 9 + 4)) → (∃ c_88 s_88, c_88 ≤ c ∧ s_88 ≤ s ∧ F_X5_addPart t0 15 0 none z_80 c_88 s_88 (fun z_88 => F_X5_atom_150 R_X5_args R_X5_atom R_X5_bracketed R_X5_expression R_X5_signed R_X5_word z_88 (c - c_88) (s - s_88) P))))) else F_X5_atom_94 R_X5_args R_X5_atom R_X5_bracketed R_X5_expression R_X5_signed R_X5_word t0 x1 x_5 z c s P)) else (∃ c_17 s_17, c_17 ≤ c ∧ s_17 ≤ s ∧ F_X5_number t0 z c_17 s_17 (fun z_17 => F_X5_atom_150 R_X5_args R_X5_atom R_X5_bracketed R_X5_expression R_X5_signed R_X5_word z_17 (c - c_17) (s - s_17) P))))))
theorem V_X5_atom {n : Nat} {R_X5_args : Nat → Int → Int → Int → Z → Nat → Nat → (Z → Prop) → Prop} {R_X5_atom : Nat → Int → Z → Nat → Nat → (Z → Prop) → Prop} {R_X5_bracketed : Nat → Int → Z → Nat → Nat → (Z → Prop) → Prop} {R_X5_expression : Nat → Int → Int → Z → Nat → Nat → (Z → Prop) → Prop} {R_X5_signed : Nat → Int → Z → Nat → Nat → (Z → Prop) → Prop} {R_X5_word : Nat → Int → Z → Nat → Nat → (Z → Prop) → Prop} {t0 : Nat} {x1 : Int} {z : Z} {c : Nat} {s : Nat} {P : Z → Prop} (r_x1 : R32 x1) (hw : Wz z) (ih_X5_args : ∀ {t0 : Nat} {x1 : Int} {x2 : Int} {x3 : Int} {z : Z} {c : Nat} {s : Nat} {P : Z → Prop}, R32 x1 → R32 x2 → R32 x3 → Wz z → R_X5_args t0 x1 x2 x3 z c s P → Con mX5_args (9 + n) c s [vr (some t0), ii (x1), ii (x2), ii (x3)] (cz z) (QZV P)) (ih_X5_atom : ∀ {t0 : Nat} {x1 : Int} {z : Z} {c : Nat} {s : Nat} {P : Z → Prop}, R32 x1 → Wz z → R_X5_atom t0 x1 z c s P → Con mX5_atom (9 + n) c s [vr (some t0), ii (x1)] (cz z) (QZV P)) (ih_X5_bracketed : ∀ {t0 : Nat} {x1 : Int} {z : Z} {c : Nat} {s : Nat} {P : Z → Prop}, R32 x1 → Wz z → R_X5_bracketed t0 x1 z c s P → Con mX5_bracketed (9 + n) c s [vr (some t0), ii (x1)] (cz z) (QZV P)) (ih_X5_expression : ∀ {t0 : Nat} {x1 : Int} {x2 : Int} {z : Z} {c : Nat} {s : Nat} {P : Z → Prop}, R32 x1 → R32 x2 → Wz z → R_X5_expression t0 x1 x2 z c s P → Con mX5_expression (9 + n) c s [vr (some t0), ii (x1), ii (x2)] (cz z) (QZV P)) (ih_X5_signed : ∀ {t0 : Nat} {x1 : Int} {z : Z} {c : Nat} {s : Nat} {P : Z → Prop}, R32 x1 → Wz z → R_X5_signed t0 x1 z c s P → Con mX5_signed (9 + n) c s [vr (some t0), ii (x1)] (cz z) (QZV P)) (ih_X5_word : ∀ {t0 : Nat} {x1 : Int} {z : Z} {c : Nat} {s : Nat} {P : Z → Prop}, R32 x1 → Wz z → R_X5_word t0 x1 z c s P → Con mX5_word (9 + n) c s [vr (some t0), ii (x1)] (cz z) (QZV P)) (H : B_X5_atom R_X5_args R_X5_atom R_X5_bracketed R_X5_expression R_X5_signed R_X5_word t0 x1 z c s P) : Con mX5_atom (9 + n + 1) c s [vr (some t0), ii (x1)] (cz z) (QZV P) := by
  refine con_of rfl (Nat.le_of_ble_eq_true rfl) (by decide) ?_
  show J mX5_atom (9 + n + 1) c s _ 0 [some (vr (some t0)), some (ii (x1)), none] [] (cz z)
  unfold B_X5_atom at H
  refine j_aload_n (dk dt_X5_atom 0 rfl) rfl ?_
  refine j_aload_n (dk dt_X5_atom 1 rfl) rfl ?_
  obtain ⟨k_2, H⟩ := H
  refine jz_getI (kz := 9) (dk dt_X5_atom 2 rfl) fl_X5_112 rfl rfl rfl k_2 ?_
  refine jz_callV1 (dk dt_X5_atom 3 rfl) vl_X5_146 rfl (T_X5_byteAt (hw.1 _ _) hw H) k_2 rfl (by omega) (Nat.zero_le _) (Nat.zero_le _) (Nat.le_of_ble_eq_true rfl) (fun v_5 h_5 P_5 => ?_)
  obtain ⟨x_5, rfl, r_5, rfl, H⟩ := P_5
  dsimp only [rs]
  refine j_istore_n (dk dt_X5_atom 4 rfl) (by decide) ?_
  refine j_iload_n (dk dt_X5_atom 5 rfl) rfl ?_
  refine j_callSN1 (dk dt_X5_atom 6 rfl) snl_X5_102 (T_X11_isDigit r_5 H) rfl (by omega) (Nat.zero_le _) (Nat.zero_le _) (Nat.le_of_ble_eq_true rfl) (fun v_10 h_10 P_10 => ?_)
  obtain ⟨x_10, rfl, r_10, rfl, H⟩ := P_10
  dsimp only [rs]
  refine jz_if_eq 23 (dk dt_X5_atom 7 rfl) (by decide) r_10 H (fun H => ?_) (fun H => ?_)
  · refine j_iload_n (dk dt_X5_atom 11 rfl) rfl ?_
    refine j_bipush (v := Int32.ofInt 34) (dk dt_X5_atom 12 rfl) (by decide) ?_
    refine jz_icmp_ne 36 (dk dt_X5_atom 13 rfl) (by decide) r_5 (by decide) H (fun H => ?_) (fun H => ?_)
    · refine j_aload_n (dk dt_X5_atom 14 rfl) rfl ?_
      obtain ⟨c_30, s_30, hc_30, hs_30, H⟩ := H
      refine jz_callV0 (dk dt_X5_atom 15 rfl) vl_X5_155 rfl (T_X5_quoted hw H) k_2 rfl (by omega) hc_30 hs_30 (Nat.le_of_ble_eq_true rfl) (fun v_30 h_30 P_30 => ?_)
      obtain ⟨z_30, rfl, rfl, w_30, H⟩ := P_30
      dsimp only [rs]
      refine j_goto 150 (dk dt_X5_atom 16 rfl) (by decide) ?_
      exact j_el (T_X5_atom_150  w_30 ih_X5_args ih_X5_atom ih_X5_bracketed ih_X5_expression ih_X5_signed ih_X5_word  H) trivial
    · refine j_iload_n (dk dt_X5_atom 17 rfl) rfl ?_
      refine j_bipush (v := Int32.ofInt 35) (dk dt_X5_atom 18 rfl) (by decide) ?_
      refine jz_icmp_ne 94 (dk dt_X5_atom 19 rfl) (by decide) r_5 (by decide) H (fun H => ?_) (fun H => ?_)
      · refine j_aload_n (dk dt_X5_atom 20 rfl) rfl ?_
        refine jz_getO (kz := 0) (dk dt_X5_atom 21 rfl) fl_X5_9 rfl rfl rfl k_2 ?_
        refine j_aload_n (dk dt_X5_atom 22 rfl) rfl ?_
        refine jz_getI (kz := 9) (dk dt_X5_atom 23 rfl) fl_X5_112 rfl rfl rfl k_2 ?_
        refine j_iconst (v := Int32.ofInt 1) (dk dt_X5_atom 24 rfl) (by decide) ?_
        refine jz_iadd (dk dt_X5_atom 25 rfl) ?_
        refine j_aload_n (dk dt_X5_atom 26 rfl) rfl ?_
        refine jz_getI (kz := 9) (dk dt_X5_atom 27 rfl) fl_X5_112 rfl rfl rfl k_2 ?_
        refine j_iconst (v := Int32.ofInt 4) (dk dt_X5_atom 28 rfl) (by decide) ?_
        refine jz_iadd (dk dt_X5_atom 29 rfl) ?_
        refine j_aload_n (dk dt_X5_atom 30 rfl) rfl ?_
        refine jz_getI (kz := 8) (dk dt_X5_atom 31 rfl) fl_X5_42 rfl rfl rfl k_2 ?_
        refine jz_mmin (dk dt_X5_atom 32 rfl) sl_X5_158 (by omega) (Nat.le_of_ble_eq_true rfl) (r32_w _) (hw.1 _ _) ?_
        refine j_ldcS 7 rfl (dk dt_X5_atom 33 rfl) rfl rfl ?_
        refine j_callSN4 (dk dt_X5_atom 34 rfl) snl_X5_166 (T_X11_isWord (r32_w _) (r32_min (r32_w _) (hw.1 _ _)) hw H) rfl (by omega) (Nat.zero_le _) (Nat.zero_le _) (Nat.le_of_ble_eq_true rfl) (fun v_67 h_67 P_67 => ?_)
        obtain ⟨x_67, rfl, r_67, rfl, H⟩ := P_67
        dsimp only [rs]
        refine jz_if_eq 94 (dk dt_X5_atom 35 rfl) (by decide) r_67 H (fun H => ?_) (fun H => ?_)
        · exact j_el (T_X5_atom_94 r_x1 r_5 hw ih_X5_args ih_X5_atom ih_X5_bracketed ih_X5_expression ih_X5_signed ih_X5_word  H) (And.intro rfl (And.intro rfl (And.intro rfl trivial)))
        · refine j_aload_n (dk dt_X5_atom 36 rfl) rfl ?_
          refine j_dup (dk dt_X5_atom 37 rfl) rfl ?_
          refine jz_getI (kz := 9) (dk dt_X5_atom 38 rfl) fl_X5_112 rfl rfl rfl k_2 ?_
          refine j_iconst (v := Int32.ofInt 4) (dk dt_X5_atom 39 rfl) (by decide) ?_
          refine jz_iadd (dk dt_X5_atom 40 rfl) ?_
          refine jz_putI (kz := 9) (dk dt_X5_atom 41 rfl) fl_X5_112 rfl rfl rfl rfl rfl k_2 hw (r32_w _) (fun w_80 => ?_)
          replace H := H _ rfl
          refine j_aload_n (dk dt_X5_atom 42 rfl) rfl ?_
          refine j_bipush (v := Int32.ofInt 15) (dk dt_X5_atom 43 rfl) (by decide) ?_
          refine j_iconst (v := Int32.ofInt 0) (dk dt_X5_atom 44 rfl) (by decide) ?_
          refine j_null (dk dt_X5_atom 45 rfl) ?_
          obtain ⟨c_88, s_88, hc_88, hs_88, H⟩ := H
          refine jz_callV3 (dk dt_X5_atom 46 rfl) vl_X5_143 rfl (T_X5_addPart (by decide) (by decide) w_80 H) k_2 rfl (by omega) hc_88 hs_88 (Nat.le_of_ble_eq_true rfl) (fun v_88 h_88 P_88 => ?_)
          obtain ⟨z_88, rfl, rfl, w_88, H⟩ := P_88
          dsimp only [rs]
          refine j_goto 150 (dk dt_X5_atom 47 rfl) (by decide) ?_
          exact j_el (T_X5_atom_150  w_88 ih_X5_args ih_X5_atom ih_X5_bracketed ih_X5_expression ih_X5_signed ih_X5_word  H) trivial
      · exact j_el (T_X5_atom_94 r_x1 r_5 hw ih_X5_args ih_X5_atom ih_X5_bracketed ih_X5_expression ih_X5_signed ih_X5_word  H) (And.intro rfl (And.intro rfl (And.intro rfl trivial)))
  · refine j_aload_n (dk dt_X5_atom 8 rfl) rfl ?_
    obtain ⟨c_17, s_17, hc_17, hs_17, H⟩ := H
    refine jz_callV0 (dk dt_X5_atom 9 rfl) vl_X5_152 rfl (T_X5_number hw H) k_2 rfl (by omega) hc_17 hs_17 (Nat.le_of_ble_eq_true rfl) (fun v_17 h_17 P_17 => ?_)
    obtain ⟨z_17, rfl, rfl, w_17, H⟩ := P_17
    dsimp only [rs]
    refine j_goto 150 (dk dt_X5_atom 10 rfl) (by decide) ?_
    exact j_el (T_X5_atom_150  w_17 ih_X5_args ih_X5_atom ih_X5_bracketed ih_X5_expression ih_X5_signed ih_X5_word  H) trivial
def B_X5_bracketed (R_X5_args : Nat → Int → Int → Int → Z → Nat → Nat → (Z → Prop) → Prop) (R_X5_atom : Nat → Int → Z → Nat → Nat → (Z → Prop) → Prop) (R_X5_bracketed : Nat → Int → Z → Nat → Nat → (Z → Prop) → Prop) (R_X5_expression : Nat → Int → Int → Z → Nat → Nat → (Z → Prop) → Prop) (R_X5_signed : Nat → Int → Z → Nat → Nat → (Z → Prop) → Prop) (R_X5_word : Nat → Int → Z → Nat → Nat → (Z → Prop) → Prop) (t0 : Nat) (x1 : Int) (z : Z) (c : Nat) (s : Nat) (P : Z → Prop) : Prop :=
  (if x1 < 20 then (zK z t0 = 6 ∧ (∀ z_23, z_23 = wI z t0 9 (w32 (zI z t0 9 + 1)) → (∃ c_31 s_31, c_31 ≤ c ∧ s_31 ≤ s ∧ R_X5_expression t0 1 (w32 (x1 + 1)) z_23 c_31 s_31 (fun z_31 => (zK z_31 t0 = 6 ∧ F_X5_skipBlanks t0 z_31 (fun z_35 => (zK z_35 t0 = 6 ∧ F_X5_byteAt t0 (zI z_35 t0 9) z_35 (fun x_43 => (if x_43 = 41 then (∀ z_68, z_68 = wI z_35 t0 9 (w32 (zI z_35 t0 9 + 1)) → P z_68) else F_X5_placeOrEnd t0 z_35 (fun x_54 => F_X5_fail t0 1 x_54 z_35 (fun z_57 => P z_57))))))))))) else (zK z t0 = 6 ∧ F_X5_fail t0 2 (zI z t0 9) z (fun z_12 => P z_12)))
theorem V_X5_bracketed {n : Nat} {R_X5_args : Nat → Int → Int → Int → Z → Nat → Nat → (Z → Prop) → Prop} {R_X5_atom : Nat → Int → Z → Nat → Nat → (Z → Prop) → Prop} {R_X5_bracketed : Nat → Int → Z → Nat → Nat → (Z → Prop) → Prop} {R_X5_expression : Nat → Int → Int → Z → Nat → Nat → (Z → Prop) → Prop} {R_X5_signed : Nat → Int → Z → Nat → Nat → (Z → Prop) → Prop} {R_X5_word : Nat → Int → Z → Nat → Nat → (Z → Prop) → Prop} {t0 : Nat} {x1 : Int} {z : Z} {c : Nat} {s : Nat} {P : Z → Prop} (r_x1 : R32 x1) (hw : Wz z) (ih_X5_args : ∀ {t0 : Nat} {x1 : Int} {x2 : Int} {x3 : Int} {z : Z} {c : Nat} {s : Nat} {P : Z → Prop}, R32 x1 → R32 x2 → R32 x3 → Wz z → R_X5_args t0 x1 x2 x3 z c s P → Con mX5_args (9 + n) c s [vr (some t0), ii (x1), ii (x2), ii (x3)] (cz z) (QZV P)) (ih_X5_atom : ∀ {t0 : Nat} {x1 : Int} {z : Z} {c : Nat} {s : Nat} {P : Z → Prop}, R32 x1 → Wz z → R_X5_atom t0 x1 z c s P → Con mX5_atom (9 + n) c s [vr (some t0), ii (x1)] (cz z) (QZV P)) (ih_X5_bracketed : ∀ {t0 : Nat} {x1 : Int} {z : Z} {c : Nat} {s : Nat} {P : Z → Prop}, R32 x1 → Wz z → R_X5_bracketed t0 x1 z c s P → Con mX5_bracketed (9 + n) c s [vr (some t0), ii (x1)] (cz z) (QZV P)) (ih_X5_expression : ∀ {t0 : Nat} {x1 : Int} {x2 : Int} {z : Z} {c : Nat} {s : Nat} {P : Z → Prop}, R32 x1 → R32 x2 → Wz z → R_X5_expression t0 x1 x2 z c s P → Con mX5_expression (9 + n) c s [vr (some t0), ii (x1), ii (x2)] (cz z) (QZV P)) (ih_X5_signed : ∀ {t0 : Nat} {x1 : Int} {z : Z} {c : Nat} {s : Nat} {P : Z → Prop}, R32 x1 → Wz z → R_X5_signed t0 x1 z c s P → Con mX5_signed (9 + n) c s [vr (some t0), ii (x1)] (cz z) (QZV P)) (ih_X5_word : ∀ {t0 : Nat} {x1 : Int} {z : Z} {c : Nat} {s : Nat} {P : Z → Prop}, R32 x1 → Wz z → R_X5_word t0 x1 z c s P → Con mX5_word (9 + n) c s [vr (some t0), ii (x1)] (cz z) (QZV P)) (H : B_X5_bracketed R_X5_args R_X5_atom R_X5_bracketed R_X5_expression R_X5_signed R_X5_word t0 x1 z c s P) : Con mX5_bracketed (9 + n + 1) c s [vr (some t0), ii (x1)] (cz z) (QZV P) := by
  refine con_of rfl (Nat.le_of_ble_eq_true rfl) (by decide) ?_
  show J mX5_bracketed (9 + n + 1) c s _ 0 [some (vr (some t0)), some (ii (x1))] [] (cz z)
  unfold B_X5_bracketed at H
  refine j_iload_n (dk dt_X5_bracketed 0 rfl) rfl ?_
  refine j_bipush (v := Int32.ofInt 20) (dk dt_X5_bracketed 1 rfl) (by decide) ?_
  refine jz_icmp_lt 16 (dk dt_X5_bracketed 2 rfl) (by decide) r_x1 (by decide) H (fun H => ?_) (fun H => ?_)
  · refine j_aload_n (dk dt_X5_bracketed 9 rfl) rfl ?_
    refine j_dup (dk dt_X5_bracketed 10 rfl) rfl ?_
    obtain ⟨k_18, H⟩ := H
    refine jz_getI (kz := 9) (dk dt_X5_bracketed 11 rfl) fl_X5_112 rfl rfl rfl k_18 ?_
    refine j_iconst (v := Int32.ofInt 1) (dk dt_X5_bracketed 12 rfl) (by decide) ?_
    refine jz_iadd (dk dt_X5_bracketed 13 rfl) ?_
    refine jz_putI (kz := 9) (dk dt_X5_bracketed 14 rfl) fl_X5_112 rfl rfl rfl rfl rfl k_18 hw (r32_w _) (fun w_23 => ?_)
    replace H := H _ rfl
    refine j_aload_n (dk dt_X5_bracketed 15 rfl) rfl ?_
    refine j_iconst (v := Int32.ofInt 1) (dk dt_X5_bracketed 16 rfl) (by decide) ?_
    refine j_iload_n (dk dt_X5_bracketed 17 rfl) rfl ?_
    refine j_iconst (v := Int32.ofInt 1) (dk dt_X5_bracketed 18 rfl) (by decide) ?_
    refine jz_iadd (dk dt_X5_bracketed 19 rfl) ?_
    obtain ⟨c_31, s_31, hc_31, hs_31, H⟩ := H
    refine jz_callV2 (dk dt_X5_bracketed 20 rfl) vl_X5_115 rfl (ih_X5_expression (by decide) (r32_w _) w_23 H) k_18 rfl (by omega) hc_31 hs_31 (Nat.le_of_ble_eq_true rfl) (fun v_31 h_31 P_31 => ?_)
    obtain ⟨z_31, rfl, rfl, w_31, H⟩ := P_31
    dsimp only [rs]
    refine j_aload_n (dk dt_X5_bracketed 21 rfl) rfl ?_
    obtain ⟨k_35, H⟩ := H
    refine jz_callV0 (dk dt_X5_bracketed 22 rfl) vl_X5_118 rfl (T_X5_skipBlanks w_31 H) k_35 rfl (by omega) (Nat.zero_le _) (Nat.zero_le _) (Nat.le_of_ble_eq_true rfl) (fun v_35 h_35 P_35 => ?_)
    obtain ⟨z_35, rfl, rfl, w_35, H⟩ := P_35
    dsimp only [rs]
    refine j_aload_n (dk dt_X5_bracketed 23 rfl) rfl ?_
    refine j_aload_n (dk dt_X5_bracketed 24 rfl) rfl ?_
    obtain ⟨k_40, H⟩ := H
    refine jz_getI (kz := 9) (dk dt_X5_bracketed 25 rfl) fl_X5_112 rfl rfl rfl k_40 ?_
    refine jz_callV1 (dk dt_X5_bracketed 26 rfl) vl_X5_146 rfl (T_X5_byteAt (w_35.1 _ _) w_35 H) k_40 rfl (by omega) (Nat.zero_le _) (Nat.zero_le _) (Nat.le_of_ble_eq_true rfl) (fun v_43 h_43 P_43 => ?_)
    obtain ⟨x_43, rfl, r_43, rfl, H⟩ := P_43
    dsimp only [rs]
    refine j_bipush (v := Int32.ofInt 41) (dk dt_X5_bracketed 27 rfl) (by decide) ?_
    refine jz_icmp_eq 61 (dk dt_X5_bracketed 28 rfl) (by decide) r_43 (by decide) H (fun H => ?_) (fun H => ?_)
    · refine j_aload_n (dk dt_X5_bracketed 35 rfl) rfl ?_
      refine j_dup (dk dt_X5_bracketed 36 rfl) rfl ?_
      refine jz_getI (kz := 9) (dk dt_X5_bracketed 37 rfl) fl_X5_112 rfl rfl rfl k_40 ?_
      refine j_iconst (v := Int32.ofInt 1) (dk dt_X5_bracketed 38 rfl) (by decide) ?_
      refine jz_iadd (dk dt_X5_bracketed 39 rfl) ?_
      refine jz_putI (kz := 9) (dk dt_X5_bracketed 40 rfl) fl_X5_112 rfl rfl rfl rfl rfl k_40 w_35 (r32_w _) (fun w_68 => ?_)
      replace H := H _ rfl
      exact j_return (dk dt_X5_bracketed 41 rfl) rfl ⟨_, rfl, rfl, w_68, H⟩
    · refine j_aload_n (dk dt_X5_bracketed 29 rfl) rfl ?_
      refine j_iconst (v := Int32.ofInt 1) (dk dt_X5_bracketed 30 rfl) (by decide) ?_
      refine j_aload_n (dk dt_X5_bracketed 31 rfl) rfl ?_
      refine jz_callV0 (dk dt_X5_bracketed 32 rfl) vl_X5_185 rfl (T_X5_placeOrEnd w_35 H) k_40 rfl (by omega) (Nat.zero_le _) (Nat.zero_le _) (Nat.le_of_ble_eq_true rfl) (fun v_54 h_54 P_54 => ?_)
      obtain ⟨x_54, rfl, r_54, rfl, H⟩ := P_54
      dsimp only [rs]
      refine jz_callV2 (dk dt_X5_bracketed 33 rfl) vl_X5_62 rfl (T_X5_fail (by decide) r_54 w_35 H) k_40 rfl (by omega) (Nat.zero_le _) (Nat.zero_le _) (Nat.le_of_ble_eq_true rfl) (fun v_57 h_57 P_57 => ?_)
      obtain ⟨z_57, rfl, rfl, w_57, H⟩ := P_57
      dsimp only [rs]
      exact j_return (dk dt_X5_bracketed 34 rfl) rfl ⟨_, rfl, rfl, w_57, H⟩
  · refine j_aload_n (dk dt_X5_bracketed 3 rfl) rfl ?_
    refine j_iconst (v := Int32.ofInt 2) (dk dt_X5_bracketed 4 rfl) (by decide) ?_
    refine j_aload_n (dk dt_X5_bracketed 5 rfl) rfl ?_
    obtain ⟨k_9, H⟩ := H
    refine jz_getI (kz := 9) (dk dt_X5_bracketed 6 rfl) fl_X5_112 rfl rfl rfl k_9 ?_
    refine jz_callV2 (dk dt_X5_bracketed 7 rfl) vl_X5_62 rfl (T_X5_fail (by decide) (hw.1 _ _) hw H) k_9 rfl (by omega) (Nat.zero_le _) (Nat.zero_le _) (Nat.le_of_ble_eq_true rfl) (fun v_12 h_12 P_12 => ?_)
    obtain ⟨z_12, rfl, rfl, w_12, H⟩ := P_12
    dsimp only [rs]
    exact j_return (dk dt_X5_bracketed 8 rfl) rfl ⟨_, rfl, rfl, w_12, H⟩
def F_X5_expression_133 (R_X5_args : Nat → Int → Int → Int → Z → Nat → Nat → (Z → Prop) → Prop) (R_X5_atom : Nat → Int → Z → Nat → Nat → (Z → Prop) → Prop) (R_X5_bracketed : Nat → Int → Z → Nat → Nat → (Z → Prop) → Prop) (R_X5_expression : Nat → Int → Int → Z → Nat → Nat → (Z → Prop) → Prop) (R_X5_signed : Nat → Int → Z → Nat → Nat → (Z → Prop) → Prop) (R_X5_word : Nat → Int → Z → Nat → Nat → (Z → Prop) → Prop) (t0 : Nat) (x1 : Int) (x2 : Int) (x4 : Int) (s0 : Int) (z : Z) (c : Nat) (s : Nat) (P : (Int × Int × Z × Nat × Nat) ⊕ ((Z × Nat × Nat) ⊕ (Z × Nat × Nat)) → Prop) : Prop :=
  P (.inl (s0, w32 (x4 + 1), z, c, s))
theorem T_X5_expression_133 {n : Nat} {R_X5_args : Nat → Int → Int → Int → Z → Nat → Nat → (Z → Prop) → Prop} {R_X5_atom : Nat → Int → Z → Nat → Nat → (Z → Prop) → Prop} {R_X5_bracketed : Nat → Int → Z → Nat → Nat → (Z → Prop) → Prop} {R_X5_expression : Nat → Int → Int → Z → Nat → Nat → (Z → Prop) → Prop} {R_X5_signed : Nat → Int → Z → Nat → Nat → (Z → Prop) → Prop} {R_X5_word : Nat → Int → Z → Nat → Nat → (Z → Prop) → Prop} {t0 : Nat} {x1 : Int} {x2 : Int} {x4 : Int} {s0 : Int} {z : Z} {c : Nat} {s : Nat} {P : (Int × Int × Z × Nat × Nat) ⊕ ((Z × Nat × Nat) ⊕ (Z × Nat × Nat)) → Prop} {post : Option Sv ⊕ String → Hp → Prop} (r_x1 : R32 x1) (r_x2 : R32 x2) (r_x4 : R32 x4) (r_s0 : R32 s0) (hw : Wz z) (ih_X5_args : ∀ {t0 : Nat} {x1 : Int} {x2 : Int} {x3 : Int} {z : Z} {c : Nat} {s : Nat} {P : Z → Prop}, R32 x1 → R32 x2 → R32 x3 → Wz z → R_X5_args t0 x1 x2 x3 z c s P → Con mX5_args (9 + n) c s [vr (some t0), ii (x1), ii (x2), ii (x3)] (cz z) (QZV P)) (ih_X5_atom : ∀ {t0 : Nat} {x1 : Int} {z : Z} {c : Nat} {s : Nat} {P : Z → Prop}, R32 x1 → Wz z → R_X5_atom t0 x1 z c s P → Con mX5_atom (9 + n) c s [vr (some t0), ii (x1)] (cz z) (QZV P)) (ih_X5_bracketed : ∀ {t0 : Nat} {x1 : Int} {z : Z} {c : Nat} {s : Nat} {P : Z → Prop}, R32 x1 → Wz z → R_X5_bracketed t0 x1 z c s P → Con mX5_bracketed (9 + n) c s [vr (some t0), ii (x1)] (cz z) (QZV P)) (ih_X5_expression : ∀ {t0 : Nat} {x1 : Int} {x2 : Int} {z : Z} {c : Nat} {s : Nat} {P : Z → Prop}, R32 x1 → R32 x2 → Wz z → R_X5_expression t0 x1 x2 z c s P → Con mX5_expression (9 + n) c s [vr (some t0), ii (x1), ii (x2)] (cz z) (QZV P)) (ih_X5_signed : ∀ {t0 : Nat} {x1 : Int} {z : Z} {c : Nat} {s : Nat} {P : Z → Prop}, R32 x1 → Wz z → R_X5_signed t0 x1 z c s P → Con mX5_signed (9 + n) c s [vr (some t0), ii (x1)] (cz z) (QZV P)) (ih_X5_word : ∀ {t0 : Nat} {x1 : Int} {z : Z} {c : Nat} {s : Nat} {P : Z → Prop}, R32 x1 → Wz z → R_X5_word t0 x1 z c s P → Con mX5_word (9 + n) c s [vr (some t0), ii (x1)] (cz z) (QZV P)) (hl : ∀ (x3 : Int) (x4 : Int) (z : Z) (c : Nat) (s : Nat), P (.inl (x3, x4, z, c, s)) → Wz z → R32 x3 → R32 x4 → J mX5_expression (9 + n + 1) c s post 10 [some (vr (some t0)), some (ii (x1)), some (ii (x2)), some (ii (x3)), some (ii (x4)), none] [] (cz z)) (he0 : ∀ (z : Z) (c : Nat) (s : Nat), P (.inr (.inl (z, c, s))) → Wz z → J mX5_expression (9 + n + 1) c s post 140 [none, none, none, none, none, none] [] (cz z)) (he1 : ∀ (z : Z) (c : Nat) (s : Nat), P (.inr (.inr (z, c, s))) → Wz z → J mX5_expression (9 + n + 1) c s post 62 [none, none, none, none, none, none] [] (cz z)) (H : F_X5_expression_133 R_X5_args R_X5_atom R_X5_bracketed R_X5_expression R_X5_signed R_X5_word t0 x1 x2 x4 s0 z c s P) : J mX5_expression (9 + n + 1) c s (post) 133 [some (vr (some t0)), some (ii (x1)), some (ii (x2)), none, some (ii (x4)), none] [ii (s0)] (cz z) := by
  unfold F_X5_expression_133 at H
  refine j_istore_n (dk dt_X5_expression 71 rfl) (by decide) ?_
  refine jz_iinc (dk dt_X5_expression 72 rfl) rfl ?_
  refine j_goto 10 (dk dt_X5_expression 73 rfl) (by decide) ?_
  exact j_el (hl _ _ _ _ _ H hw r_s0 (r32_w _)) (And.intro rfl (And.intro rfl (And.intro rfl (And.intro rfl (And.intro rfl trivial)))))
def F_X5_expression_128 (R_X5_args : Nat → Int → Int → Int → Z → Nat → Nat → (Z → Prop) → Prop) (R_X5_atom : Nat → Int → Z → Nat → Nat → (Z → Prop) → Prop) (R_X5_bracketed : Nat → Int → Z → Nat → Nat → (Z → Prop) → Prop) (R_X5_expression : Nat → Int → Int → Z → Nat → Nat → (Z → Prop) → Prop) (R_X5_signed : Nat → Int → Z → Nat → Nat → (Z → Prop) → Prop) (R_X5_word : Nat → Int → Z → Nat → Nat → (Z → Prop) → Prop) (t0 : Nat) (x1 : Int) (x2 : Int) (x4 : Int) (z : Z) (c : Nat) (s : Nat) (P : (Int × Int × Z × Nat × Nat) ⊕ ((Z × Nat × Nat) ⊕ (Z × Nat × Nat)) → Prop) : Prop :=
  F_X5_expression_133 R_X5_args R_X5_atom R_X5_bracketed R_X5_expression R_X5_signed R_X5_word t0 x1 x2 x4 1 z c s P
theorem T_X5_expression_128 {n : Nat} {R_X5_args : Nat → Int → Int → Int → Z → Nat → Nat → (Z → Prop) → Prop} {R_X5_atom : Nat → Int → Z → Nat → Nat → (Z → Prop) → Prop} {R_X5_bracketed : Nat → Int → Z → Nat → Nat → (Z → Prop) → Prop} {R_X5_expression : Nat → Int → Int → Z → Nat → Nat → (Z → Prop) → Prop} {R_X5_signed : Nat → Int → Z → Nat → Nat → (Z → Prop) → Prop} {R_X5_word : Nat → Int → Z → Nat → Nat → (Z → Prop) → Prop} {t0 : Nat} {x1 : Int} {x2 : Int} {x4 : Int} {z : Z} {c : Nat} {s : Nat} {P : (Int × Int × Z × Nat × Nat) ⊕ ((Z × Nat × Nat) ⊕ (Z × Nat × Nat)) → Prop} {post : Option Sv ⊕ String → Hp → Prop} (r_x1 : R32 x1) (r_x2 : R32 x2) (r_x4 : R32 x4) (hw : Wz z) (ih_X5_args : ∀ {t0 : Nat} {x1 : Int} {x2 : Int} {x3 : Int} {z : Z} {c : Nat} {s : Nat} {P : Z → Prop}, R32 x1 → R32 x2 → R32 x3 → Wz z → R_X5_args t0 x1 x2 x3 z c s P → Con mX5_args (9 + n) c s [vr (some t0), ii (x1), ii (x2), ii (x3)] (cz z) (QZV P)) (ih_X5_atom : ∀ {t0 : Nat} {x1 : Int} {z : Z} {c : Nat} {s : Nat} {P : Z → Prop}, R32 x1 → Wz z → R_X5_atom t0 x1 z c s P → Con mX5_atom (9 + n) c s [vr (some t0), ii (x1)] (cz z) (QZV P)) (ih_X5_bracketed : ∀ {t0 : Nat} {x1 : Int} {z : Z} {c : Nat} {s : Nat} {P : Z → Prop}, R32 x1 → Wz z → R_X5_bracketed t0 x1 z c s P → Con mX5_bracketed (9 + n) c s [vr (some t0), ii (x1)] (cz z) (QZV P)) (ih_X5_expression : ∀ {t0 : Nat} {x1 : Int} {x2 : Int} {z : Z} {c : Nat} {s : Nat} {P : Z → Prop}, R32 x1 → R32 x2 → Wz z → R_X5_expression t0 x1 x2 z c s P → Con mX5_expression (9 + n) c s [vr (some t0), ii (x1), ii (x2)] (cz z) (QZV P)) (ih_X5_signed : ∀ {t0 : Nat} {x1 : Int} {z : Z} {c : Nat} {s : Nat} {P : Z → Prop}, R32 x1 → Wz z → R_X5_signed t0 x1 z c s P → Con mX5_signed (9 + n) c s [vr (some t0), ii (x1)] (cz z) (QZV P)) (ih_X5_word : ∀ {t0 : Nat} {x1 : Int} {z : Z} {c : Nat} {s : Nat} {P : Z → Prop}, R32 x1 → Wz z → R_X5_word t0 x1 z c s P → Con mX5_word (9 + n) c s [vr (some t0), ii (x1)] (cz z) (QZV P)) (hl : ∀ (x3 : Int) (x4 : Int) (z : Z) (c : Nat) (s : Nat), P (.inl (x3, x4, z, c, s)) → Wz z → R32 x3 → R32 x4 → J mX5_expression (9 + n + 1) c s post 10 [some (vr (some t0)), some (ii (x1)), some (ii (x2)), some (ii (x3)), some (ii (x4)), none] [] (cz z)) (he0 : ∀ (z : Z) (c : Nat) (s : Nat), P (.inr (.inl (z, c, s))) → Wz z → J mX5_expression (9 + n + 1) c s post 140 [none, none, none, none, none, none] [] (cz z)) (he1 : ∀ (z : Z) (c : Nat) (s : Nat), P (.inr (.inr (z, c, s))) → Wz z → J mX5_expression (9 + n + 1) c s post 62 [none, none, none, none, none, none] [] (cz z)) (H : F_X5_expression_128 R_X5_args R_X5_atom R_X5_bracketed R_X5_expression R_X5_signed R_X5_word t0 x1 x2 x4 z c s P) : J mX5_expression (9 + n + 1) c s (post) 128 [some (vr (some t0)), some (ii (x1)), some (ii (x2)), none, some (ii (x4)), none] [] (cz z) := by
  unfold F_X5_expression_128 at H
  refine j_iconst (v := Int32.ofInt 1) (dk dt_X5_expression 68 rfl) (by decide) ?_
  refine j_goto 133 (dk dt_X5_expression 69 rfl) (by decide) ?_
  exact j_el (T_X5_expression_133 r_x1 r_x2 r_x4 (by decide) hw ih_X5_args ih_X5_atom ih_X5_bracketed ih_X5_expression ih_X5_signed ih_X5_word hl he0 he1 H) (And.intro rfl (And.intro rfl (And.intro rfl (And.intro rfl trivial))))
def F_X5_expression_91 (R_X5_args : Nat → Int → Int → Int → Z → Nat → Nat → (Z → Prop) → Prop) (R_X5_atom : Nat → Int → Z → Nat → Nat → (Z → Prop) → Prop) (R_X5_bracketed : Nat → Int → Z → Nat → Nat → (Z → Prop) → Prop) (R_X5_expression : Nat → Int → Int → Z → Nat → Nat → (Z → Prop) → Prop) (R_X5_signed : Nat → Int → Z → Nat → Nat → (Z → Prop) → Prop) (R_X5_word : Nat → Int → Z → Nat → Nat → (Z → Prop) → Prop) (t0 : Nat) (x1 : Int) (x2 : Int) (x3 : Int) (x4 : Int) (x5 : Int) (s0 : Option Nat) (s1 : Int) (s2 : Int) (z : Z) (c : Nat) (s : Nat) (P : (Int × Int × Z × Nat × Nat) ⊕ ((Z × Nat × Nat) ⊕ (Z × Nat × Nat)) → Prop) : Prop :=
  (∃ a_92, s0 = some a_92 ∧ zK z a_92 = 6 ∧ (∀ z_92, z_92 = wI z a_92 9 (w32 (s1 + s2)) → F_X11_bindsOf x5 (fun x_98 => (zK z_92 t0 = 6 ∧ (∃ c_104 s_104, c_104 ≤ c ∧ s_104 ≤ s ∧ R_X5_expression t0 (w32 (x_98 + 1)) x2 z_92 c_104 s_104 (fun z_104 => (zK z_104 t0 = 6 ∧ (∃ c_112 s_112, c_112 ≤ c - c_104 ∧ s_112 ≤ s - s_104 ∧ F_X5_addPart t0 x5 2 none z_104 c_112 s_112 (fun z_112 => (if x3 = 0 then F_X11_bindsOf x5 (fun x_121 => (if x_121 = 1 then F_X5_expression_128 R_X5_args R_X5_atom R_X5_bracketed R_X5_expression R_X5_signed R_X5_word t0 x1 x2 x4 z_112 ((c - c_104) - c_112) ((s - s_104) - s_112) P else F_X5_expression_133 R_X5_args R_X5_atom R_X5_bracketed R_X5_expression R_X5_signed R_X5_word t0 x1 x2 x4 0 z_112 ((c - c_104) - c_112) ((s - s_104) - s_112) P)) else F_X5_expression_128 R_X5_args R_X5_atom R_X5_bracketed R_X5_expression R_X5_signed R_X5_word t0 x1 x2 x4 z_112 ((c - c_104) - c_112) ((s - s_104) - s_112) P))))))))))
theorem T_X5_expression_91 {n : Nat} {R_X5_args : Nat → Int → Int → Int → Z → Nat → Nat → (Z → Prop) → Prop} {R_X5_atom : Nat → Int → Z → Nat → Nat → (Z → Prop) → Prop} {R_X5_bracketed : Nat → Int → Z → Nat → Nat → (Z → Prop) → Prop} {R_X5_expression : Nat → Int → Int → Z → Nat → Nat → (Z → Prop) → Prop} {R_X5_signed : Nat → Int → Z → Nat → Nat → (Z → Prop) → Prop} {R_X5_word : Nat → Int → Z → Nat → Nat → (Z → Prop) → Prop} {t0 : Nat} {x1 : Int} {x2 : Int} {x3 : Int} {x4 : Int} {x5 : Int} {s0 : Option Nat} {s1 : Int} {s2 : Int} {z : Z} {c : Nat} {s : Nat} {P : (Int × Int × Z × Nat × Nat) ⊕ ((Z × Nat × Nat) ⊕ (Z × Nat × Nat)) → Prop} {post : Option Sv ⊕ String → Hp → Prop} (r_x1 : R32 x1) (r_x2 : R32 x2) (r_x3 : R32 x3) (r_x4 : R32 x4) (r_x5 : R32 x5) (r_s1 : R32 s1) (r_s2 : R32 s2) (hw : Wz z) (ih_X5_args : ∀ {t0 : Nat} {x1 : Int} {x2 : Int} {x3 : Int} {z : Z} {c : Nat} {s : Nat} {P : Z → Prop}, R32 x1 → R32 x2 → R32 x3 → Wz z → R_X5_args t0 x1 x2 x3 z c s P → Con mX5_args (9 + n) c s [vr (some t0), ii (x1), ii (x2), ii (x3)] (cz z) (QZV P)) (ih_X5_atom : ∀ {t0 : Nat} {x1 : Int} {z : Z} {c : Nat} {s : Nat} {P : Z → Prop}, R32 x1 → Wz z → R_X5_atom t0 x1 z c s P → Con mX5_atom (9 + n) c s [vr (some t0), ii (x1)] (cz z) (QZV P)) (ih_X5_bracketed : ∀ {t0 : Nat} {x1 : Int} {z : Z} {c : Nat} {s : Nat} {P : Z → Prop}, R32 x1 → Wz z → R_X5_bracketed t0 x1 z c s P → Con mX5_bracketed (9 + n) c s [vr (some t0), ii (x1)] (cz z) (QZV P)) (ih_X5_expression : ∀ {t0 : Nat} {x1 : Int} {x2 : Int} {z : Z} {c : Nat} {s : Nat} {P : Z → Prop}, R32 x1 → R32 x2 → Wz z → R_X5_expression t0 x1 x2 z c s P → Con mX5_expression (9 + n) c s [vr (some t0), ii (x1), ii (x2)] (cz z) (QZV P)) (ih_X5_signed : ∀ {t0 : Nat} {x1 : Int} {z : Z} {c : Nat} {s : Nat} {P : Z → Prop}, R32 x1 → Wz z → R_X5_signed t0 x1 z c s P → Con mX5_signed (9 + n) c s [vr (some t0), ii (x1)] (cz z) (QZV P)) (ih_X5_word : ∀ {t0 : Nat} {x1 : Int} {z : Z} {c : Nat} {s : Nat} {P : Z → Prop}, R32 x1 → Wz z → R_X5_word t0 x1 z c s P → Con mX5_word (9 + n) c s [vr (some t0), ii (x1)] (cz z) (QZV P)) (hl : ∀ (x3 : Int) (x4 : Int) (z : Z) (c : Nat) (s : Nat), P (.inl (x3, x4, z, c, s)) → Wz z → R32 x3 → R32 x4 → J mX5_expression (9 + n + 1) c s post 10 [some (vr (some t0)), some (ii (x1)), some (ii (x2)), some (ii (x3)), some (ii (x4)), none] [] (cz z)) (he0 : ∀ (z : Z) (c : Nat) (s : Nat), P (.inr (.inl (z, c, s))) → Wz z → J mX5_expression (9 + n + 1) c s post 140 [none, none, none, none, none, none] [] (cz z)) (he1 : ∀ (z : Z) (c : Nat) (s : Nat), P (.inr (.inr (z, c, s))) → Wz z → J mX5_expression (9 + n + 1) c s post 62 [none, none, none, none, none, none] [] (cz z)) (H : F_X5_expression_91 R_X5_args R_X5_atom R_X5_bracketed R_X5_expression R_X5_signed R_X5_word t0 x1 x2 x3 x4 x5 s0 s1 s2 z c s P) : J mX5_expression (9 + n + 1) c s (post) 91 [some (vr (some t0)), some (ii (x1)), some (ii (x2)), some (ii (x3)), some (ii (x4)), some (ii (x5))] [ii (s2), ii (s1), vr (s0)] (cz z) := by
  unfold F_X5_expression_91 at H
  refine jz_iadd (dk dt_X5_expression 48 rfl) ?_
  obtain ⟨a_92, e_92, k_92, H⟩ := H
  refine jz_putI (kz := 9) (dk dt_X5_expression 49 rfl) fl_X5_112 rfl rfl rfl rfl e_92 k_92 hw (r32_w _) (fun w_92 => ?_)
  replace H := H _ rfl
  refine j_aload_n (dk dt_X5_expression 50 rfl) rfl ?_
  refine j_iload (dk dt_X5_expression 51 rfl) rfl ?_
  refine j_callSN1 (dk dt_X5_expression 52 rfl) snl_X5_131 (T_X11_bindsOf r_x5 H) rfl (by omega) (Nat.zero_le _) (Nat.zero_le _) (Nat.le_of_ble_eq_true rfl) (fun v_98 h_98 P_98 => ?_)
  obtain ⟨x_98, rfl, r_98, rfl, H⟩ := P_98
  dsimp only [rs]
  refine j_iconst (v := Int32.ofInt 1) (dk dt_X5_expression 53 rfl) (by decide) ?_
  refine jz_iadd (dk dt_X5_expression 54 rfl) ?_
  refine j_iload_n (dk dt_X5_expression 55 rfl) rfl ?_
  obtain ⟨k_104, H⟩ := H
  obtain ⟨c_104, s_104, hc_104, hs_104, H⟩ := H
  refine jz_callV2 (dk dt_X5_expression 56 rfl) vl_X5_115 rfl (ih_X5_expression (r32_w _) r_x2 w_92 H) k_104 rfl (by omega) hc_104 hs_104 (Nat.le_of_ble_eq_true rfl) (fun v_104 h_104 P_104 => ?_)
  obtain ⟨z_104, rfl, rfl, w_104, H⟩ := P_104
  dsimp only [rs]
  refine j_aload_n (dk dt_X5_expression 57 rfl) rfl ?_
  refine j_iload (dk dt_X5_expression 58 rfl) rfl ?_
  refine j_iconst (v := Int32.ofInt 2) (dk dt_X5_expression 59 rfl) (by decide) ?_
  refine j_null (dk dt_X5_expression 60 rfl) ?_
  obtain ⟨k_112, H⟩ := H
  obtain ⟨c_112, s_112, hc_112, hs_112, H⟩ := H
  refine jz_callV3 (dk dt_X5_expression 61 rfl) vl_X5_143 rfl (T_X5_addPart r_x5 (by decide) w_104 H) k_112 rfl (by omega) hc_112 hs_112 (Nat.le_of_ble_eq_true rfl) (fun v_112 h_112 P_112 => ?_)
  obtain ⟨z_112, rfl, rfl, w_112, H⟩ := P_112
  dsimp only [rs]
  refine j_iload_n (dk dt_X5_expression 62 rfl) rfl ?_
  refine jz_if_ne 128 (dk dt_X5_expression 63 rfl) (by decide) r_x3 H (fun H => ?_) (fun H => ?_)
  · refine j_iload (dk dt_X5_expression 64 rfl) rfl ?_
    refine j_callSN1 (dk dt_X5_expression 65 rfl) snl_X5_131 (T_X11_bindsOf r_x5 H) rfl (by omega) (Nat.zero_le _) (Nat.zero_le _) (Nat.le_of_ble_eq_true rfl) (fun v_121 h_121 P_121 => ?_)
    obtain ⟨x_121, rfl, r_121, rfl, H⟩ := P_121
    dsimp only [rs]
    refine j_iconst (v := Int32.ofInt 1) (dk dt_X5_expression 66 rfl) (by decide) ?_
    refine jz_icmp_ne 132 (dk dt_X5_expression 67 rfl) (by decide) r_121 (by decide) H (fun H => ?_) (fun H => ?_)
    · exact j_el (T_X5_expression_128 r_x1 r_x2 r_x4 w_112 ih_X5_args ih_X5_atom ih_X5_bracketed ih_X5_expression ih_X5_signed ih_X5_word hl he0 he1 H) (And.intro rfl (And.intro rfl (And.intro rfl (And.intro rfl trivial))))
    · refine j_iconst (v := Int32.ofInt 0) (dk dt_X5_expression 70 rfl) (by decide) ?_
      exact j_el (T_X5_expression_133 r_x1 r_x2 r_x4 (by decide) w_112 ih_X5_args ih_X5_atom ih_X5_bracketed ih_X5_expression ih_X5_signed ih_X5_word hl he0 he1 H) (And.intro rfl (And.intro rfl (And.intro rfl (And.intro rfl trivial))))
  · exact j_el (T_X5_expression_128 r_x1 r_x2 r_x4 w_112 ih_X5_args ih_X5_atom ih_X5_bracketed ih_X5_expression ih_X5_signed ih_X5_word hl he0 he1 H) (And.intro rfl (And.intro rfl (And.intro rfl (And.intro rfl trivial))))
def F_X5_expression_63 (R_X5_args : Nat → Int → Int → Int → Z → Nat → Nat → (Z → Prop) → Prop) (R_X5_atom : Nat → Int → Z → Nat → Nat → (Z → Prop) → Prop) (R_X5_bracketed : Nat → Int → Z → Nat → Nat → (Z → Prop) → Prop) (R_X5_expression : Nat → Int → Int → Z → Nat → Nat → (Z → Prop) → Prop) (R_X5_signed : Nat → Int → Z → Nat → Nat → (Z → Prop) → Prop) (R_X5_word : Nat → Int → Z → Nat → Nat → (Z → Prop) → Prop) (t0 : Nat) (x1 : Int) (x2 : Int) (x3 : Int) (x4 : Int) (x5 : Int) (z : Z) (c : Nat) (s : Nat) (P : (Int × Int × Z × Nat × Nat) ⊕ ((Z × Nat × Nat) ⊕ (Z × Nat × Nat)) → Prop) : Prop :=
  (zK z t0 = 6 ∧ (0 ≤ w32 (w32 ((w32 (x5 - 1)) * 2) + 1) ∧ w32 (w32 ((w32 (x5 - 1)) * 2) + 1) < sLen 9 ∧ (if sCh 9 (w32 (w32 ((w32 (x5 - 1)) * 2) + 1)) = 32 then F_X5_expression_91 R_X5_args R_X5_atom R_X5_bracketed R_X5_expression R_X5_signed R_X5_word t0 x1 x2 x3 x4 x5 (some t0) (zI z t0 9) 1 z c s P else F_X5_expression_91 R_X5_args R_X5_atom R_X5_bracketed R_X5_expression R_X5_signed R_X5_word t0 x1 x2 x3 x4 x5 (some t0) (zI z t0 9) 2 z c s P)))
theorem T_X5_expression_63 {n : Nat} {R_X5_args : Nat → Int → Int → Int → Z → Nat → Nat → (Z → Prop) → Prop} {R_X5_atom : Nat → Int → Z → Nat → Nat → (Z → Prop) → Prop} {R_X5_bracketed : Nat → Int → Z → Nat → Nat → (Z → Prop) → Prop} {R_X5_expression : Nat → Int → Int → Z → Nat → Nat → (Z → Prop) → Prop} {R_X5_signed : Nat → Int → Z → Nat → Nat → (Z → Prop) → Prop} {R_X5_word : Nat → Int → Z → Nat → Nat → (Z → Prop) → Prop} {t0 : Nat} {x1 : Int} {x2 : Int} {x3 : Int} {x4 : Int} {x5 : Int} {z : Z} {c : Nat} {s : Nat} {P : (Int × Int × Z × Nat × Nat) ⊕ ((Z × Nat × Nat) ⊕ (Z × Nat × Nat)) → Prop} {post : Option Sv ⊕ String → Hp → Prop} (r_x1 : R32 x1) (r_x2 : R32 x2) (r_x3 : R32 x3) (r_x4 : R32 x4) (r_x5 : R32 x5) (hw : Wz z) (ih_X5_args : ∀ {t0 : Nat} {x1 : Int} {x2 : Int} {x3 : Int} {z : Z} {c : Nat} {s : Nat} {P : Z → Prop}, R32 x1 → R32 x2 → R32 x3 → Wz z → R_X5_args t0 x1 x2 x3 z c s P → Con mX5_args (9 + n) c s [vr (some t0), ii (x1), ii (x2), ii (x3)] (cz z) (QZV P)) (ih_X5_atom : ∀ {t0 : Nat} {x1 : Int} {z : Z} {c : Nat} {s : Nat} {P : Z → Prop}, R32 x1 → Wz z → R_X5_atom t0 x1 z c s P → Con mX5_atom (9 + n) c s [vr (some t0), ii (x1)] (cz z) (QZV P)) (ih_X5_bracketed : ∀ {t0 : Nat} {x1 : Int} {z : Z} {c : Nat} {s : Nat} {P : Z → Prop}, R32 x1 → Wz z → R_X5_bracketed t0 x1 z c s P → Con mX5_bracketed (9 + n) c s [vr (some t0), ii (x1)] (cz z) (QZV P)) (ih_X5_expression : ∀ {t0 : Nat} {x1 : Int} {x2 : Int} {z : Z} {c : Nat} {s : Nat} {P : Z → Prop}, R32 x1 → R32 x2 → Wz z → R_X5_expression t0 x1 x2 z c s P → Con mX5_expression (9 + n) c s [vr (some t0), ii (x1), ii (x2)] (cz z) (QZV P)) (ih_X5_signed : ∀ {t0 : Nat} {x1 : Int} {z : Z} {c : Nat} {s : Nat} {P : Z → Prop}, R32 x1 → Wz z → R_X5_signed t0 x1 z c s P → Con mX5_signed (9 + n) c s [vr (some t0), ii (x1)] (cz z) (QZV P)) (ih_X5_word : ∀ {t0 : Nat} {x1 : Int} {z : Z} {c : Nat} {s : Nat} {P : Z → Prop}, R32 x1 → Wz z → R_X5_word t0 x1 z c s P → Con mX5_word (9 + n) c s [vr (some t0), ii (x1)] (cz z) (QZV P)) (hl : ∀ (x3 : Int) (x4 : Int) (z : Z) (c : Nat) (s : Nat), P (.inl (x3, x4, z, c, s)) → Wz z → R32 x3 → R32 x4 → J mX5_expression (9 + n + 1) c s post 10 [some (vr (some t0)), some (ii (x1)), some (ii (x2)), some (ii (x3)), some (ii (x4)), none] [] (cz z)) (he0 : ∀ (z : Z) (c : Nat) (s : Nat), P (.inr (.inl (z, c, s))) → Wz z → J mX5_expression (9 + n + 1) c s post 140 [none, none, none, none, none, none] [] (cz z)) (he1 : ∀ (z : Z) (c : Nat) (s : Nat), P (.inr (.inr (z, c, s))) → Wz z → J mX5_expression (9 + n + 1) c s post 62 [none, none, none, none, none, none] [] (cz z)) (H : F_X5_expression_63 R_X5_args R_X5_atom R_X5_bracketed R_X5_expression R_X5_signed R_X5_word t0 x1 x2 x3 x4 x5 z c s P) : J mX5_expression (9 + n + 1) c s (post) 63 [some (vr (some t0)), some (ii (x1)), some (ii (x2)), some (ii (x3)), some (ii (x4)), some (ii (x5))] [] (cz z) := by
  unfold F_X5_expression_63 at H
  refine j_aload_n (dk dt_X5_expression 31 rfl) rfl ?_
  refine j_dup (dk dt_X5_expression 32 rfl) rfl ?_
  obtain ⟨k_65, H⟩ := H
  refine jz_getI (kz := 9) (dk dt_X5_expression 33 rfl) fl_X5_112 rfl rfl rfl k_65 ?_
  refine j_ldcS 9 rfl (dk dt_X5_expression 34 rfl) rfl rfl ?_
  refine j_iload (dk dt_X5_expression 35 rfl) rfl ?_
  refine j_iconst (v := Int32.ofInt 1) (dk dt_X5_expression 36 rfl) (by decide) ?_
  refine jz_isub (dk dt_X5_expression 37 rfl) ?_
  refine j_iconst (v := Int32.ofInt 2) (dk dt_X5_expression 38 rfl) (by decide) ?_
  refine jz_imul (dk dt_X5_expression 39 rfl) ?_
  refine j_iconst (v := Int32.ofInt 1) (dk dt_X5_expression 40 rfl) (by decide) ?_
  refine jz_iadd (dk dt_X5_expression 41 rfl) ?_
  obtain ⟨p_78, q_78, H⟩ := H
  refine jz_scharAt (dk dt_X5_expression 42 rfl) sv_X5_137 (by decide) p_78 q_78 (by omega) (Nat.le_of_ble_eq_true rfl) ?_
  refine j_bipush (v := Int32.ofInt 32) (dk dt_X5_expression 43 rfl) (by decide) ?_
  refine jz_icmp_ne 90 (dk dt_X5_expression 44 rfl) (by decide) (r32_sCh _ _) (by decide) H (fun H => ?_) (fun H => ?_)
  · refine j_iconst (v := Int32.ofInt 1) (dk dt_X5_expression 45 rfl) (by decide) ?_
    refine j_goto 91 (dk dt_X5_expression 46 rfl) (by decide) ?_
    exact j_el (T_X5_expression_91 r_x1 r_x2 r_x3 r_x4 r_x5 (hw.1 _ _) (by decide) hw ih_X5_args ih_X5_atom ih_X5_bracketed ih_X5_expression ih_X5_signed ih_X5_word hl he0 he1 H) (And.intro rfl (And.intro rfl (And.intro rfl (And.intro rfl (And.intro rfl (And.intro rfl trivial))))))
  · refine j_iconst (v := Int32.ofInt 2) (dk dt_X5_expression 47 rfl) (by decide) ?_
    exact j_el (T_X5_expression_91 r_x1 r_x2 r_x3 r_x4 r_x5 (hw.1 _ _) (by decide) hw ih_X5_args ih_X5_atom ih_X5_bracketed ih_X5_expression ih_X5_signed ih_X5_word hl he0 he1 H) (And.intro rfl (And.intro rfl (And.intro rfl (And.intro rfl (And.intro rfl (And.intro rfl trivial))))))
def L_X5_expression_10 (R_X5_args : Nat → Int → Int → Int → Z → Nat → Nat → (Z → Prop) → Prop) (R_X5_atom : Nat → Int → Z → Nat → Nat → (Z → Prop) → Prop) (R_X5_bracketed : Nat → Int → Z → Nat → Nat → (Z → Prop) → Prop) (R_X5_expression : Nat → Int → Int → Z → Nat → Nat → (Z → Prop) → Prop) (R_X5_signed : Nat → Int → Z → Nat → Nat → (Z → Prop) → Prop) (R_X5_word : Nat → Int → Z → Nat → Nat → (Z → Prop) → Prop) (t0 : Nat) (x1 : Int) (x2 : Int) (x3 : Int) (x4 : Int) (z : Z) (c : Nat) (s : Nat) (P : (Int × Int × Z × Nat × Nat) ⊕ ((Z × Nat × Nat) ⊕ (Z × Nat × Nat)) → Prop) : Prop :=
  (if 400 ≤ x4 then P (.inr (.inl (z, c, s))) else (zK z t0 = 6 ∧ (if zI z t0 4 = 0 then F_X5_skipBlanks t0 z (fun z_26 => (zK z_26 t0 = 6 ∧ F_X5_signOfTwo t0 z_26 (fun x_30 => (if x_30 = 0 then P (.inr (.inr (z_26, c, s))) else F_X11_bindsOf x_30 (fun x_42 => (if x_42 < x1 then P (.inr (.inr (z_26, c, s))) else (if x3 = 0 then F_X5_expression_63 R_X5_args R_X5_atom R_X5_bracketed R_X5_expression R_X5_signed R_X5_word t0 x1 x2 x3 x4 x_30 z_26 c s P else F_X11_bindsOf x_30 (fun x_55 => (if x_55 = 1 then P (.inr (.inr (z_26, c, s))) else F_X5_expression_63 R_X5_args R_X5_atom R_X5_bracketed R_X5_expression R_X5_signed R_X5_word t0 x1 x2 x3 x4 x_30 z_26 c s P))))))))) else P (.inr (.inl (z, c, s))))))
theorem U_X5_expression_10 {n : Nat} {R_X5_args : Nat → Int → Int → Int → Z → Nat → Nat → (Z → Prop) → Prop} {R_X5_atom : Nat → Int → Z → Nat → Nat → (Z → Prop) → Prop} {R_X5_bracketed : Nat → Int → Z → Nat → Nat → (Z → Prop) → Prop} {R_X5_expression : Nat → Int → Int → Z → Nat → Nat → (Z → Prop) → Prop} {R_X5_signed : Nat → Int → Z → Nat → Nat → (Z → Prop) → Prop} {R_X5_word : Nat → Int → Z → Nat → Nat → (Z → Prop) → Prop} {t0 : Nat} {x1 : Int} {x2 : Int} {x3 : Int} {x4 : Int} {z : Z} {c : Nat} {s : Nat} {P : (Int × Int × Z × Nat × Nat) ⊕ ((Z × Nat × Nat) ⊕ (Z × Nat × Nat)) → Prop} {post : Option Sv ⊕ String → Hp → Prop} (r_x1 : R32 x1) (r_x2 : R32 x2) (r_x3 : R32 x3) (r_x4 : R32 x4) (hw : Wz z) (ih_X5_args : ∀ {t0 : Nat} {x1 : Int} {x2 : Int} {x3 : Int} {z : Z} {c : Nat} {s : Nat} {P : Z → Prop}, R32 x1 → R32 x2 → R32 x3 → Wz z → R_X5_args t0 x1 x2 x3 z c s P → Con mX5_args (9 + n) c s [vr (some t0), ii (x1), ii (x2), ii (x3)] (cz z) (QZV P)) (ih_X5_atom : ∀ {t0 : Nat} {x1 : Int} {z : Z} {c : Nat} {s : Nat} {P : Z → Prop}, R32 x1 → Wz z → R_X5_atom t0 x1 z c s P → Con mX5_atom (9 + n) c s [vr (some t0), ii (x1)] (cz z) (QZV P)) (ih_X5_bracketed : ∀ {t0 : Nat} {x1 : Int} {z : Z} {c : Nat} {s : Nat} {P : Z → Prop}, R32 x1 → Wz z → R_X5_bracketed t0 x1 z c s P → Con mX5_bracketed (9 + n) c s [vr (some t0), ii (x1)] (cz z) (QZV P)) (ih_X5_expression : ∀ {t0 : Nat} {x1 : Int} {x2 : Int} {z : Z} {c : Nat} {s : Nat} {P : Z → Prop}, R32 x1 → R32 x2 → Wz z → R_X5_expression t0 x1 x2 z c s P → Con mX5_expression (9 + n) c s [vr (some t0), ii (x1), ii (x2)] (cz z) (QZV P)) (ih_X5_signed : ∀ {t0 : Nat} {x1 : Int} {z : Z} {c : Nat} {s : Nat} {P : Z → Prop}, R32 x1 → Wz z → R_X5_signed t0 x1 z c s P → Con mX5_signed (9 + n) c s [vr (some t0), ii (x1)] (cz z) (QZV P)) (ih_X5_word : ∀ {t0 : Nat} {x1 : Int} {z : Z} {c : Nat} {s : Nat} {P : Z → Prop}, R32 x1 → Wz z → R_X5_word t0 x1 z c s P → Con mX5_word (9 + n) c s [vr (some t0), ii (x1)] (cz z) (QZV P)) (hl : ∀ (x3 : Int) (x4 : Int) (z : Z) (c : Nat) (s : Nat), P (.inl (x3, x4, z, c, s)) → Wz z → R32 x3 → R32 x4 → J mX5_expression (9 + n + 1) c s post 10 [some (vr (some t0)), some (ii (x1)), some (ii (x2)), some (ii (x3)), some (ii (x4)), none] [] (cz z)) (he0 : ∀ (z : Z) (c : Nat) (s : Nat), P (.inr (.inl (z, c, s))) → Wz z → J mX5_expression (9 + n + 1) c s post 140 [none, none, none, none, none, none] [] (cz z)) (he1 : ∀ (z : Z) (c : Nat) (s : Nat), P (.inr (.inr (z, c, s))) → Wz z → J mX5_expression (9 + n + 1) c s post 62 [none, none, none, none, none, none] [] (cz z)) (H : L_X5_expression_10 R_X5_args R_X5_atom R_X5_bracketed R_X5_expression R_X5_signed R_X5_word t0 x1 x2 x3 x4 z c s P) : J mX5_expression (9 + n + 1) c s post 10 [some (vr (some t0)), some (ii (x1)), some (ii (x2)), some (ii (x3)), some (ii (x4)), none] [] (cz z) := by
  unfold L_X5_expression_10 at H
  refine j_iload (dk dt_X5_expression 7 rfl) rfl ?_
  refine j_sipush (v := Int32.ofInt 400) (dk dt_X5_expression 8 rfl) (by decide) ?_
  refine jz_icmp_ge 140 (dk dt_X5_expression 9 rfl) (by decide) r_x4 (by decide) H (fun H => ?_) (fun H => ?_)
  · exact j_el (he0 _ _ _ H hw) trivial
  · refine j_aload_n (dk dt_X5_expression 10 rfl) rfl ?_
    obtain ⟨k_19, H⟩ := H
    refine jz_getI (kz := 4) (dk dt_X5_expression 11 rfl) fl_X5_36 rfl rfl rfl k_19 ?_
    refine jz_if_ne 140 (dk dt_X5_expression 12 rfl) (by decide) (hw.1 _ _) H (fun H => ?_) (fun H => ?_)
    · refine j_aload_n (dk dt_X5_expression 13 rfl) rfl ?_
      refine jz_callV0 (dk dt_X5_expression 14 rfl) vl_X5_118 rfl (T_X5_skipBlanks hw H) k_19 rfl (by omega) (Nat.zero_le _) (Nat.zero_le _) (Nat.le_of_ble_eq_true rfl) (fun v_26 h_26 P_26 => ?_)
      obtain ⟨z_26, rfl, rfl, w_26, H⟩ := P_26
      dsimp only [rs]
      refine j_aload_n (dk dt_X5_expression 15 rfl) rfl ?_
      obtain ⟨k_30, H⟩ := H
      refine jz_callV0 (dk dt_X5_expression 16 rfl) vl_X5_127 rfl (T_X5_signOfTwo w_26 H) k_30 rfl (by omega) (Nat.zero_le _) (Nat.zero_le _) (Nat.le_of_ble_eq_true rfl) (fun v_30 h_30 P_30 => ?_)
      obtain ⟨x_30, rfl, r_30, rfl, H⟩ := P_30
      dsimp only [rs]
      refine j_istore (dk dt_X5_expression 17 rfl) (by decide) ?_
      refine j_iload (dk dt_X5_expression 18 rfl) rfl ?_
      refine jz_if_eq 62 (dk dt_X5_expression 19 rfl) (by decide) r_30 H (fun H => ?_) (fun H => ?_)
      · exact j_el (he1 _ _ _ H w_26) trivial
      · refine j_iload (dk dt_X5_expression 20 rfl) rfl ?_
        refine j_callSN1 (dk dt_X5_expression 21 rfl) snl_X5_131 (T_X11_bindsOf r_30 H) rfl (by omega) (Nat.zero_le _) (Nat.zero_le _) (Nat.le_of_ble_eq_true rfl) (fun v_42 h_42 P_42 => ?_)
        obtain ⟨x_42, rfl, r_42, rfl, H⟩ := P_42
        dsimp only [rs]
        refine j_iload_n (dk dt_X5_expression 22 rfl) rfl ?_
        refine jz_icmp_lt 62 (dk dt_X5_expression 23 rfl) (by decide) r_42 r_x1 H (fun H => ?_) (fun H => ?_)
        · exact j_el (he1 _ _ _ H w_26) trivial
        · refine j_iload_n (dk dt_X5_expression 24 rfl) rfl ?_
          refine jz_if_eq 63 (dk dt_X5_expression 25 rfl) (by decide) r_x3 H (fun H => ?_) (fun H => ?_)
          · exact j_el (T_X5_expression_63 r_x1 r_x2 r_x3 r_x4 r_30 w_26 ih_X5_args ih_X5_atom ih_X5_bracketed ih_X5_expression ih_X5_signed ih_X5_word hl he0 he1 H) (And.intro rfl (And.intro rfl (And.intro rfl (And.intro rfl (And.intro rfl (And.intro rfl trivial))))))
          · refine j_iload (dk dt_X5_expression 26 rfl) rfl ?_
            refine j_callSN1 (dk dt_X5_expression 27 rfl) snl_X5_131 (T_X11_bindsOf r_30 H) rfl (by omega) (Nat.zero_le _) (Nat.zero_le _) (Nat.le_of_ble_eq_true rfl) (fun v_55 h_55 P_55 => ?_)
            obtain ⟨x_55, rfl, r_55, rfl, H⟩ := P_55
            dsimp only [rs]
            refine j_iconst (v := Int32.ofInt 1) (dk dt_X5_expression 28 rfl) (by decide) ?_
            refine jz_icmp_ne 63 (dk dt_X5_expression 29 rfl) (by decide) r_55 (by decide) H (fun H => ?_) (fun H => ?_)
            · exact j_el (he1 _ _ _ H w_26) trivial
            · exact j_el (T_X5_expression_63 r_x1 r_x2 r_x3 r_x4 r_30 w_26 ih_X5_args ih_X5_atom ih_X5_bracketed ih_X5_expression ih_X5_signed ih_X5_word hl he0 he1 H) (And.intro rfl (And.intro rfl (And.intro rfl (And.intro rfl (And.intro rfl (And.intro rfl trivial))))))
    · exact j_el (he0 _ _ _ H hw) trivial
def F_X5_expression_140 (R_X5_args : Nat → Int → Int → Int → Z → Nat → Nat → (Z → Prop) → Prop) (R_X5_atom : Nat → Int → Z → Nat → Nat → (Z → Prop) → Prop) (R_X5_bracketed : Nat → Int → Z → Nat → Nat → (Z → Prop) → Prop) (R_X5_expression : Nat → Int → Int → Z → Nat → Nat → (Z → Prop) → Prop) (R_X5_signed : Nat → Int → Z → Nat → Nat → (Z → Prop) → Prop) (R_X5_word : Nat → Int → Z → Nat → Nat → (Z → Prop) → Prop) (z : Z) (c : Nat) (s : Nat) (P : Z → Prop) : Prop :=
  P z
theorem T_X5_expression_140 {n : Nat} {R_X5_args : Nat → Int → Int → Int → Z → Nat → Nat → (Z → Prop) → Prop} {R_X5_atom : Nat → Int → Z → Nat → Nat → (Z → Prop) → Prop} {R_X5_bracketed : Nat → Int → Z → Nat → Nat → (Z → Prop) → Prop} {R_X5_expression : Nat → Int → Int → Z → Nat → Nat → (Z → Prop) → Prop} {R_X5_signed : Nat → Int → Z → Nat → Nat → (Z → Prop) → Prop} {R_X5_word : Nat → Int → Z → Nat → Nat → (Z → Prop) → Prop} {z : Z} {c : Nat} {s : Nat} {P : Z → Prop}  (hw : Wz z) (ih_X5_args : ∀ {t0 : Nat} {x1 : Int} {x2 : Int} {x3 : Int} {z : Z} {c : Nat} {s : Nat} {P : Z → Prop}, R32 x1 → R32 x2 → R32 x3 → Wz z → R_X5_args t0 x1 x2 x3 z c s P → Con mX5_args (9 + n) c s [vr (some t0), ii (x1), ii (x2), ii (x3)] (cz z) (QZV P)) (ih_X5_atom : ∀ {t0 : Nat} {x1 : Int} {z : Z} {c : Nat} {s : Nat} {P : Z → Prop}, R32 x1 → Wz z → R_X5_atom t0 x1 z c s P → Con mX5_atom (9 + n) c s [vr (some t0), ii (x1)] (cz z) (QZV P)) (ih_X5_bracketed : ∀ {t0 : Nat} {x1 : Int} {z : Z} {c : Nat} {s : Nat} {P : Z → Prop}, R32 x1 → Wz z → R_X5_bracketed t0 x1 z c s P → Con mX5_bracketed (9 + n) c s [vr (some t0), ii (x1)] (cz z) (QZV P)) (ih_X5_expression : ∀ {t0 : Nat} {x1 : Int} {x2 : Int} {z : Z} {c : Nat} {s : Nat} {P : Z → Prop}, R32 x1 → R32 x2 → Wz z → R_X5_expression t0 x1 x2 z c s P → Con mX5_expression (9 + n) c s [vr (some t0), ii (x1), ii (x2)] (cz z) (QZV P)) (ih_X5_signed : ∀ {t0 : Nat} {x1 : Int} {z : Z} {c : Nat} {s : Nat} {P : Z → Prop}, R32 x1 → Wz z → R_X5_signed t0 x1 z c s P → Con mX5_signed (9 + n) c s [vr (some t0), ii (x1)] (cz z) (QZV P)) (ih_X5_word : ∀ {t0 : Nat} {x1 : Int} {z : Z} {c : Nat} {s : Nat} {P : Z → Prop}, R32 x1 → Wz z → R_X5_word t0 x1 z c s P → Con mX5_word (9 + n) c s [vr (some t0), ii (x1)] (cz z) (QZV P))  (H : F_X5_expression_140 R_X5_args R_X5_atom R_X5_bracketed R_X5_expression R_X5_signed R_X5_word z c s P) : J mX5_expression (9 + n + 1) c s (nx (QZV P)) 140 [none, none, none, none, none, none] [] (cz z) := by
  unfold F_X5_expression_140 at H
  exact j_return (dk dt_X5_expression 74 rfl) rfl ⟨_, rfl, rfl, hw, H⟩
def F_X5_expression_62 (R_X5_args : Nat → Int → Int → Int → Z → Nat → Nat → (Z → Prop) → Prop) (R_X5_atom : Nat → Int → Z → Nat → Nat → (Z → Prop) → Prop) (R_X5_bracketed : Nat → Int → Z → Nat → Nat → (Z → Prop) → Prop) (R_X5_expression : Nat → Int → Int → Z → Nat → Nat → (Z → Prop) → Prop) (R_X5_signed : Nat → Int → Z → Nat → Nat → (Z → Prop) → Prop) (R_X5_word : Nat → Int → Z → Nat → Nat → (Z → Prop) → Prop) (z : Z) (c : Nat) (s : Nat) (P : Z → Prop) : Prop :=
  P z
theorem T_X5_expression_62 {n : Nat} {R_X5_args : Nat → Int → Int → Int → Z → Nat → Nat → (Z → Prop) → Prop} {R_X5_atom : Nat → Int → Z → Nat → Nat → (Z → Prop) → Prop} {R_X5_bracketed : Nat → Int → Z → Nat → Nat → (Z → Prop) → Prop} {R_X5_expression : Nat → Int → Int → Z → Nat → Nat → (Z → Prop) → Prop} {R_X5_signed : Nat → Int → Z → Nat → Nat → (Z → Prop) → Prop} {R_X5_word : Nat → Int → Z → Nat → Nat → (Z → Prop) → Prop} {z : Z} {c : Nat} {s : Nat} {P : Z → Prop}  (hw : Wz z) (ih_X5_args : ∀ {t0 : Nat} {x1 : Int} {x2 : Int} {x3 : Int} {z : Z} {c : Nat} {s : Nat} {P : Z → Prop}, R32 x1 → R32 x2 → R32 x3 → Wz z → R_X5_args t0 x1 x2 x3 z c s P → Con mX5_args (9 + n) c s [vr (some t0), ii (x1), ii (x2), ii (x3)] (cz z) (QZV P)) (ih_X5_atom : ∀ {t0 : Nat} {x1 : Int} {z : Z} {c : Nat} {s : Nat} {P : Z → Prop}, R32 x1 → Wz z → R_X5_atom t0 x1 z c s P → Con mX5_atom (9 + n) c s [vr (some t0), ii (x1)] (cz z) (QZV P)) (ih_X5_bracketed : ∀ {t0 : Nat} {x1 : Int} {z : Z} {c : Nat} {s : Nat} {P : Z → Prop}, R32 x1 → Wz z → R_X5_bracketed t0 x1 z c s P → Con mX5_bracketed (9 + n) c s [vr (some t0), ii (x1)] (cz z) (QZV P)) (ih_X5_expression : ∀ {t0 : Nat} {x1 : Int} {x2 : Int} {z : Z} {c : Nat} {s : Nat} {P : Z → Prop}, R32 x1 → R32 x2 → Wz z → R_X5_expression t0 x1 x2 z c s P → Con mX5_expression (9 + n) c s [vr (some t0), ii (x1), ii (x2)] (cz z) (QZV P)) (ih_X5_signed : ∀ {t0 : Nat} {x1 : Int} {z : Z} {c : Nat} {s : Nat} {P : Z → Prop}, R32 x1 → Wz z → R_X5_signed t0 x1 z c s P → Con mX5_signed (9 + n) c s [vr (some t0), ii (x1)] (cz z) (QZV P)) (ih_X5_word : ∀ {t0 : Nat} {x1 : Int} {z : Z} {c : Nat} {s : Nat} {P : Z → Prop}, R32 x1 → Wz z → R_X5_word t0 x1 z c s P → Con mX5_word (9 + n) c s [vr (some t0), ii (x1)] (cz z) (QZV P))  (H : F_X5_expression_62 R_X5_args R_X5_atom R_X5_bracketed R_X5_expression R_X5_signed R_X5_word z c s P) : J mX5_expression (9 + n + 1) c s (nx (QZV P)) 62 [none, none, none, none, none, none] [] (cz z) := by
  unfold F_X5_expression_62 at H
  exact j_return (dk dt_X5_expression 30 rfl) rfl ⟨_, rfl, rfl, hw, H⟩
def F_X5_expression_10 (R_X5_args : Nat → Int → Int → Int → Z → Nat → Nat → (Z → Prop) → Prop) (R_X5_atom : Nat → Int → Z → Nat → Nat → (Z → Prop) → Prop) (R_X5_bracketed : Nat → Int → Z → Nat → Nat → (Z → Prop) → Prop) (R_X5_expression : Nat → Int → Int → Z → Nat → Nat → (Z → Prop) → Prop) (R_X5_signed : Nat → Int → Z → Nat → Nat → (Z → Prop) → Prop) (R_X5_word : Nat → Int → Z → Nat → Nat → (Z → Prop) → Prop) (t0 : Nat) (x1 : Int) (x2 : Int) (x3 : Int) (x4 : Int) (z : Z) (c : Nat) (s : Nat) (P : Z → Prop) : Prop :=
  lp (S := Int × Int × Z × Nat × Nat) (E := (Z × Nat × Nat) ⊕ (Z × Nat × Nat)) (fun q P_ => L_X5_expression_10 R_X5_args R_X5_atom R_X5_bracketed R_X5_expression R_X5_signed R_X5_word t0 x1 x2 q.1 q.2.1 q.2.2.1 q.2.2.2.1 q.2.2.2.2 P_) (x3, x4, z, c, s) (fun e => match e with | (.inl (z, c, s)) => F_X5_expression_140 R_X5_args R_X5_atom R_X5_bracketed R_X5_expression R_X5_signed R_X5_word z c s P | (.inr (z, c, s)) => F_X5_expression_62 R_X5_args R_X5_atom R_X5_bracketed R_X5_expression R_X5_signed R_X5_word z c s P)
theorem T_X5_expression_10 {n : Nat} {R_X5_args : Nat → Int → Int → Int → Z → Nat → Nat → (Z → Prop) → Prop} {R_X5_atom : Nat → Int → Z → Nat → Nat → (Z → Prop) → Prop} {R_X5_bracketed : Nat → Int → Z → Nat → Nat → (Z → Prop) → Prop} {R_X5_expression : Nat → Int → Int → Z → Nat → Nat → (Z → Prop) → Prop} {R_X5_signed : Nat → Int → Z → Nat → Nat → (Z → Prop) → Prop} {R_X5_word : Nat → Int → Z → Nat → Nat → (Z → Prop) → Prop} {t0 : Nat} {x1 : Int} {x2 : Int} {x3 : Int} {x4 : Int} {z : Z} {c : Nat} {s : Nat} {P : Z → Prop} (r_x1 : R32 x1) (r_x2 : R32 x2) (r_x3 : R32 x3) (r_x4 : R32 x4) (hw : Wz z) (ih_X5_args : ∀ {t0 : Nat} {x1 : Int} {x2 : Int} {x3 : Int} {z : Z} {c : Nat} {s : Nat} {P : Z → Prop}, R32 x1 → R32 x2 → R32 x3 → Wz z → R_X5_args t0 x1 x2 x3 z c s P → Con mX5_args (9 + n) c s [vr (some t0), ii (x1), ii (x2), ii (x3)] (cz z) (QZV P)) (ih_X5_atom : ∀ {t0 : Nat} {x1 : Int} {z : Z} {c : Nat} {s : Nat} {P : Z → Prop}, R32 x1 → Wz z → R_X5_atom t0 x1 z c s P → Con mX5_atom (9 + n) c s [vr (some t0), ii (x1)] (cz z) (QZV P)) (ih_X5_bracketed : ∀ {t0 : Nat} {x1 : Int} {z : Z} {c : Nat} {s : Nat} {P : Z → Prop}, R32 x1 → Wz z → R_X5_bracketed t0 x1 z c s P → Con mX5_bracketed (9 + n) c s [vr (some t0), ii (x1)] (cz z) (QZV P)) (ih_X5_expression : ∀ {t0 : Nat} {x1 : Int} {x2 : Int} {z : Z} {c : Nat} {s : Nat} {P : Z → Prop}, R32 x1 → R32 x2 → Wz z → R_X5_expression t0 x1 x2 z c s P → Con mX5_expression (9 + n) c s [vr (some t0), ii (x1), ii (x2)] (cz z) (QZV P)) (ih_X5_signed : ∀ {t0 : Nat} {x1 : Int} {z : Z} {c : Nat} {s : Nat} {P : Z → Prop}, R32 x1 → Wz z → R_X5_signed t0 x1 z c s P → Con mX5_signed (9 + n) c s [vr (some t0), ii (x1)] (cz z) (QZV P)) (ih_X5_word : ∀ {t0 : Nat} {x1 : Int} {z : Z} {c : Nat} {s : Nat} {P : Z → Prop}, R32 x1 → Wz z → R_X5_word t0 x1 z c s P → Con mX5_word (9 + n) c s [vr (some t0), ii (x1)] (cz z) (QZV P))  (H : F_X5_expression_10 R_X5_args R_X5_atom R_X5_bracketed R_X5_expression R_X5_signed R_X5_word t0 x1 x2 x3 x4 z c s P) : J mX5_expression (9 + n + 1) c s (nx (QZV P)) 10 [some (vr (some t0)), some (ii (x1)), some (ii (x2)), some (ii (x3)), some (ii (x4)), none] [] (cz z) := by
  unfold F_X5_expression_10 at H
  refine lp_J (G := fun q => Wz (q.2.2.1) → R32 (q.1) → R32 (q.2.1) → J mX5_expression (9 + n + 1) (q.2.2.2.1) (q.2.2.2.2) (nx (QZV P)) 10 [some (vr (some t0)), some (ii (x1)), some (ii (x2)), some (ii ((q.1))), some (ii ((q.2.1))), none] [] (cz (q.2.2.1))) (fun q P_ hl_ he_ Hb => ?_) (x3, x4, z, c, s) H hw r_x3 r_x4
  obtain ⟨x3, x4, z, c, s⟩ := q
  intro hw r_x3 r_x4
  refine U_X5_expression_10 (P := P_) r_x1 r_x2 r_x3 r_x4 hw ih_X5_args ih_X5_atom ih_X5_bracketed ih_X5_expression ih_X5_signed ih_X5_word (fun x3 x4 z c s Hp hw r_x3 r_x4 => hl_ (x3, x4, z, c, s) Hp hw r_x3 r_x4) ?_ ?_ Hb
  · intro z c s Hp hw
    have H := he_ _ Hp
    exact j_el (T_X5_expression_140  hw ih_X5_args ih_X5_atom ih_X5_bracketed ih_X5_expression ih_X5_signed ih_X5_word  H) trivial
  · intro z c s Hp hw
    have H := he_ _ Hp
    exact j_el (T_X5_expression_62  hw ih_X5_args ih_X5_atom ih_X5_bracketed ih_X5_expression ih_X5_signed ih_X5_word  H) trivial
def B_X5_expression (R_X5_args : Nat → Int → Int → Int → Z → Nat → Nat → (Z → Prop) → Prop) (R_X5_atom : Nat → Int → Z → Nat → Nat → (Z → Prop) → Prop) (R_X5_bracketed : Nat → Int → Z → Nat → Nat → (Z → Prop) → Prop) (R_X5_expression : Nat → Int → Int → Z → Nat → Nat → (Z → Prop) → Prop) (R_X5_signed : Nat → Int → Z → Nat → Nat → (Z → Prop) → Prop) (R_X5_word : Nat → Int → Z → Nat → Nat → (Z → Prop) → Prop) (t0 : Nat) (x1 : Int) (x2 : Int) (z : Z) (c : Nat) (s : Nat) (P : Z → Prop) : Prop :=
  (zK z t0 = 6 ∧ (∃ c_2 s_2, c_2 ≤ c ∧ s_2 ≤ s ∧ R_X5_signed t0 x2 z c_2 s_2 (fun z_2 => F_X5_expression_10 R_X5_args R_X5_atom R_X5_bracketed R_X5_expression R_X5_signed R_X5_word t0 x1 x2 0 0 z_2 (c - c_2) (s - s_2) P)))
theorem V_X5_expression {n : Nat} {R_X5_args : Nat → Int → Int → Int → Z → Nat → Nat → (Z → Prop) → Prop} {R_X5_atom : Nat → Int → Z → Nat → Nat → (Z → Prop) → Prop} {R_X5_bracketed : Nat → Int → Z → Nat → Nat → (Z → Prop) → Prop} {R_X5_expression : Nat → Int → Int → Z → Nat → Nat → (Z → Prop) → Prop} {R_X5_signed : Nat → Int → Z → Nat → Nat → (Z → Prop) → Prop} {R_X5_word : Nat → Int → Z → Nat → Nat → (Z → Prop) → Prop} {t0 : Nat} {x1 : Int} {x2 : Int} {z : Z} {c : Nat} {s : Nat} {P : Z → Prop} (r_x1 : R32 x1) (r_x2 : R32 x2) (hw : Wz z) (ih_X5_args : ∀ {t0 : Nat} {x1 : Int} {x2 : Int} {x3 : Int} {z : Z} {c : Nat} {s : Nat} {P : Z → Prop}, R32 x1 → R32 x2 → R32 x3 → Wz z → R_X5_args t0 x1 x2 x3 z c s P → Con mX5_args (9 + n) c s [vr (some t0), ii (x1), ii (x2), ii (x3)] (cz z) (QZV P)) (ih_X5_atom : ∀ {t0 : Nat} {x1 : Int} {z : Z} {c : Nat} {s : Nat} {P : Z → Prop}, R32 x1 → Wz z → R_X5_atom t0 x1 z c s P → Con mX5_atom (9 + n) c s [vr (some t0), ii (x1)] (cz z) (QZV P)) (ih_X5_bracketed : ∀ {t0 : Nat} {x1 : Int} {z : Z} {c : Nat} {s : Nat} {P : Z → Prop}, R32 x1 → Wz z → R_X5_bracketed t0 x1 z c s P → Con mX5_bracketed (9 + n) c s [vr (some t0), ii (x1)] (cz z) (QZV P)) (ih_X5_expression : ∀ {t0 : Nat} {x1 : Int} {x2 : Int} {z : Z} {c : Nat} {s : Nat} {P : Z → Prop}, R32 x1 → R32 x2 → Wz z → R_X5_expression t0 x1 x2 z c s P → Con mX5_expression (9 + n) c s [vr (some t0), ii (x1), ii (x2)] (cz z) (QZV P)) (ih_X5_signed : ∀ {t0 : Nat} {x1 : Int} {z : Z} {c : Nat} {s : Nat} {P : Z → Prop}, R32 x1 → Wz z → R_X5_signed t0 x1 z c s P → Con mX5_signed (9 + n) c s [vr (some t0), ii (x1)] (cz z) (QZV P)) (ih_X5_word : ∀ {t0 : Nat} {x1 : Int} {z : Z} {c : Nat} {s : Nat} {P : Z → Prop}, R32 x1 → Wz z → R_X5_word t0 x1 z c s P → Con mX5_word (9 + n) c s [vr (some t0), ii (x1)] (cz z) (QZV P)) (H : B_X5_expression R_X5_args R_X5_atom R_X5_bracketed R_X5_expression R_X5_signed R_X5_word t0 x1 x2 z c s P) : Con mX5_expression (9 + n + 1) c s [vr (some t0), ii (x1), ii (x2)] (cz z) (QZV P) := by
  refine con_of rfl (Nat.le_of_ble_eq_true rfl) (by decide) ?_
  show J mX5_expression (9 + n + 1) c s _ 0 [some (vr (some t0)), some (ii (x1)), some (ii (x2)), none, none, none] [] (cz z)
  unfold B_X5_expression at H
  refine j_aload_n (dk dt_X5_expression 0 rfl) rfl ?_
  refine j_iload_n (dk dt_X5_expression 1 rfl) rfl ?_
  obtain ⟨k_2, H⟩ := H
  obtain ⟨c_2, s_2, hc_2, hs_2, H⟩ := H
  refine jz_callV1 (dk dt_X5_expression 2 rfl) vl_X5_124 rfl (ih_X5_signed r_x2 hw H) k_2 rfl (by omega) hc_2 hs_2 (Nat.le_of_ble_eq_true rfl) (fun v_2 h_2 P_2 => ?_)
  obtain ⟨z_2, rfl, rfl, w_2, H⟩ := P_2
  dsimp only [rs]
  refine j_iconst (v := Int32.ofInt 0) (dk dt_X5_expression 3 rfl) (by decide) ?_
  refine j_istore_n (dk dt_X5_expression 4 rfl) (by decide) ?_
  refine j_iconst (v := Int32.ofInt 0) (dk dt_X5_expression 5 rfl) (by decide) ?_
  refine j_istore (dk dt_X5_expression 6 rfl) (by decide) ?_
  exact j_el (T_X5_expression_10 r_x1 r_x2 (by decide) (by decide) w_2 ih_X5_args ih_X5_atom ih_X5_bracketed ih_X5_expression ih_X5_signed ih_X5_word  H) (And.intro rfl (And.intro rfl (And.intro rfl (And.intro rfl (And.intro rfl trivial)))))
def F_X5_signed_68 (R_X5_args : Nat → Int → Int → Int → Z → Nat → Nat → (Z → Prop) → Prop) (R_X5_atom : Nat → Int → Z → Nat → Nat → (Z → Prop) → Prop) (R_X5_bracketed : Nat → Int → Z → Nat → Nat → (Z → Prop) → Prop) (R_X5_expression : Nat → Int → Int → Z → Nat → Nat → (Z → Prop) → Prop) (R_X5_signed : Nat → Int → Z → Nat → Nat → (Z → Prop) → Prop) (R_X5_word : Nat → Int → Z → Nat → Nat → (Z → Prop) → Prop) (z : Z) (c : Nat) (s : Nat) (P : Z → Prop) : Prop :=
  P z
theorem T_X5_signed_68 {n : Nat} {R_X5_args : Nat → Int → Int → Int → Z → Nat → Nat → (Z → Prop) → Prop} {R_X5_atom : Nat → Int → Z → Nat → Nat → (Z → Prop) → Prop} {R_X5_bracketed : Nat → Int → Z → Nat → Nat → (Z → Prop) → Prop} {R_X5_expression : Nat → Int → Int → Z → Nat → Nat → (Z → Prop) → Prop} {R_X5_signed : Nat → Int → Z → Nat → Nat → (Z → Prop) → Prop} {R_X5_word : Nat → Int → Z → Nat → Nat → (Z → Prop) → Prop} {z : Z} {c : Nat} {s : Nat} {P : Z → Prop}  (hw : Wz z) (ih_X5_args : ∀ {t0 : Nat} {x1 : Int} {x2 : Int} {x3 : Int} {z : Z} {c : Nat} {s : Nat} {P : Z → Prop}, R32 x1 → R32 x2 → R32 x3 → Wz z → R_X5_args t0 x1 x2 x3 z c s P → Con mX5_args (9 + n) c s [vr (some t0), ii (x1), ii (x2), ii (x3)] (cz z) (QZV P)) (ih_X5_atom : ∀ {t0 : Nat} {x1 : Int} {z : Z} {c : Nat} {s : Nat} {P : Z → Prop}, R32 x1 → Wz z → R_X5_atom t0 x1 z c s P → Con mX5_atom (9 + n) c s [vr (some t0), ii (x1)] (cz z) (QZV P)) (ih_X5_bracketed : ∀ {t0 : Nat} {x1 : Int} {z : Z} {c : Nat} {s : Nat} {P : Z → Prop}, R32 x1 → Wz z → R_X5_bracketed t0 x1 z c s P → Con mX5_bracketed (9 + n) c s [vr (some t0), ii (x1)] (cz z) (QZV P)) (ih_X5_expression : ∀ {t0 : Nat} {x1 : Int} {x2 : Int} {z : Z} {c : Nat} {s : Nat} {P : Z → Prop}, R32 x1 → R32 x2 → Wz z → R_X5_expression t0 x1 x2 z c s P → Con mX5_expression (9 + n) c s [vr (some t0), ii (x1), ii (x2)] (cz z) (QZV P)) (ih_X5_signed : ∀ {t0 : Nat} {x1 : Int} {z : Z} {c : Nat} {s : Nat} {P : Z → Prop}, R32 x1 → Wz z → R_X5_signed t0 x1 z c s P → Con mX5_signed (9 + n) c s [vr (some t0), ii (x1)] (cz z) (QZV P)) (ih_X5_word : ∀ {t0 : Nat} {x1 : Int} {z : Z} {c : Nat} {s : Nat} {P : Z → Prop}, R32 x1 → Wz z → R_X5_word t0 x1 z c s P → Con mX5_word (9 + n) c s [vr (some t0), ii (x1)] (cz z) (QZV P))  (H : F_X5_signed_68 R_X5_args R_X5_atom R_X5_bracketed R_X5_expression R_X5_signed R_X5_word z c s P) : J mX5_signed (9 + n + 1) c s (nx (QZV P)) 68 [none, none] [] (cz z) := by
  unfold F_X5_signed_68 at H
  exact j_return (dk dt_X5_signed 37 rfl) rfl ⟨_, rfl, rfl, hw, H⟩
def B_X5_signed (R_X5_args : Nat → Int → Int → Int → Z → Nat → Nat → (Z → Prop) → Prop) (R_X5_atom : Nat → Int → Z → Nat → Nat → (Z → Prop) → Prop) (R_X5_bracketed : Nat → Int → Z → Nat → Nat → (Z → Prop) → Prop) (R_X5_expression : Nat → Int → Int → Z → Nat → Nat → (Z → Prop) → Prop) (R_X5_signed : Nat → Int → Z → Nat → Nat → (Z → Prop) → Prop) (R_X5_word : Nat → Int → Z → Nat → Nat → (Z → Prop) → Prop) (t0 : Nat) (x1 : Int) (z : Z) (c : Nat) (s : Nat) (P : Z → Prop) : Prop :=
  (zK z t0 = 6 ∧ F_X5_skipBlanks t0 z (fun z_1 => (zK z_1 t0 = 6 ∧ F_X5_byteAt t0 (zI z_1 t0 9) z_1 (fun x_9 => (if x_9 = 45 then (if x1 < 20 then (∀ z_50, z_50 = wI z_1 t0 9 (w32 (zI z_1 t0 9 + 1)) → (∃ c_57 s_57, c_57 ≤ c ∧ s_57 ≤ s ∧ R_X5_signed t0 (w32 (x1 + 1)) z_50 c_57 s_57 (fun z_57 => (zK z_57 t0 = 6 ∧ (∃ c_65 s_65, c_65 ≤ c - c_57 ∧ s_65 ≤ s - s_57 ∧ F_X5_addPart t0 13 1 none z_57 c_65 s_65 (fun z_65 => F_X5_signed_68 R_X5_args R_X5_atom R_X5_bracketed R_X5_expression R_X5_signed R_X5_word z_65 ((c - c_57) - c_65) ((s - s_57) - s_65) P)))))) else F_X5_fail t0 2 (zI z_1 t0 9) z_1 (fun z_37 => F_X5_signed_68 R_X5_args R_X5_atom R_X5_bracketed R_X5_expression R_X5_signed R_X5_word z_37 c s P)) else (∃ c_19 s_19, c_19 ≤ c ∧ s_19 ≤ s ∧ R_X5_atom t0 x1 z_1 c_19 s_19 (fun z_19 => F_X5_signed_68 R_X5_args R_X5_atom R_X5_bracketed R_X5_expression R_X5_signed R_X5_word z_19 (c - c_19) (s - s_19) P)))))))
theorem V_X5_signed {n : Nat} {R_X5_args : Nat → Int → Int → Int → Z → Nat → Nat → (Z → Prop) → Prop} {R_X5_atom : Nat → Int → Z → Nat → Nat → (Z → Prop) → Prop} {R_X5_bracketed : Nat → Int → Z → Nat → Nat → (Z → Prop) → Prop} {R_X5_expression : Nat → Int → Int → Z → Nat → Nat → (Z → Prop) → Prop} {R_X5_signed : Nat → Int → Z → Nat → Nat → (Z → Prop) → Prop} {R_X5_word : Nat → Int → Z → Nat → Nat → (Z → Prop) → Prop} {t0 : Nat} {x1 : Int} {z : Z} {c : Nat} {s : Nat} {P : Z → Prop} (r_x1 : R32 x1) (hw : Wz z) (ih_X5_args : ∀ {t0 : Nat} {x1 : Int} {x2 : Int} {x3 : Int} {z : Z} {c : Nat} {s : Nat} {P : Z → Prop}, R32 x1 → R32 x2 → R32 x3 → Wz z → R_X5_args t0 x1 x2 x3 z c s P → Con mX5_args (9 + n) c s [vr (some t0), ii (x1), ii (x2), ii (x3)] (cz z) (QZV P)) (ih_X5_atom : ∀ {t0 : Nat} {x1 : Int} {z : Z} {c : Nat} {s : Nat} {P : Z → Prop}, R32 x1 → Wz z → R_X5_atom t0 x1 z c s P → Con mX5_atom (9 + n) c s [vr (some t0), ii (x1)] (cz z) (QZV P)) (ih_X5_bracketed : ∀ {t0 : Nat} {x1 : Int} {z : Z} {c : Nat} {s : Nat} {P : Z → Prop}, R32 x1 → Wz z → R_X5_bracketed t0 x1 z c s P → Con mX5_bracketed (9 + n) c s [vr (some t0), ii (x1)] (cz z) (QZV P)) (ih_X5_expression : ∀ {t0 : Nat} {x1 : Int} {x2 : Int} {z : Z} {c : Nat} {s : Nat} {P : Z → Prop}, R32 x1 → R32 x2 → Wz z → R_X5_expression t0 x1 x2 z c s P → Con mX5_expression (9 + n) c s [vr (some t0), ii (x1), ii (x2)] (cz z) (QZV P)) (ih_X5_signed : ∀ {t0 : Nat} {x1 : Int} {z : Z} {c : Nat} {s : Nat} {P : Z → Prop}, R32 x1 → Wz z → R_X5_signed t0 x1 z c s P → Con mX5_signed (9 + n) c s [vr (some t0), ii (x1)] (cz z) (QZV P)) (ih_X5_word : ∀ {t0 : Nat} {x1 : Int} {z : Z} {c : Nat} {s : Nat} {P : Z → Prop}, R32 x1 → Wz z → R_X5_word t0 x1 z c s P → Con mX5_word (9 + n) c s [vr (some t0), ii (x1)] (cz z) (QZV P)) (H : B_X5_signed R_X5_args R_X5_atom R_X5_bracketed R_X5_expression R_X5_signed R_X5_word t0 x1 z c s P) : Con mX5_signed (9 + n + 1) c s [vr (some t0), ii (x1)] (cz z) (QZV P) := by
  refine con_of rfl (Nat.le_of_ble_eq_true rfl) (by decide) ?_
  show J mX5_signed (9 + n + 1) c s _ 0 [some (vr (some t0)), some (ii (x1))] [] (cz z)
  unfold B_X5_signed at H
  refine j_aload_n (dk dt_X5_signed 0 rfl) rfl ?_
  obtain ⟨k_1, H⟩ := H
  refine jz_callV0 (dk dt_X5_signed 1 rfl) vl_X5_118 rfl (T_X5_skipBlanks hw H) k_1 rfl (by omega) (Nat.zero_le _) (Nat.zero_le _) (Nat.le_of_ble_eq_true rfl) (fun v_1 h_1 P_1 => ?_)
  obtain ⟨z_1, rfl, rfl, w_1, H⟩ := P_1
  dsimp only [rs]
  refine j_aload_n (dk dt_X5_signed 2 rfl) rfl ?_
  refine j_aload_n (dk dt_X5_signed 3 rfl) rfl ?_
  obtain ⟨k_6, H⟩ := H
  refine jz_getI (kz := 9) (dk dt_X5_signed 4 rfl) fl_X5_112 rfl rfl rfl k_6 ?_
  refine jz_callV1 (dk dt_X5_signed 5 rfl) vl_X5_146 rfl (T_X5_byteAt (w_1.1 _ _) w_1 H) k_6 rfl (by omega) (Nat.zero_le _) (Nat.zero_le _) (Nat.le_of_ble_eq_true rfl) (fun v_9 h_9 P_9 => ?_)
  obtain ⟨x_9, rfl, r_9, rfl, H⟩ := P_9
  dsimp only [rs]
  refine j_bipush (v := Int32.ofInt 45) (dk dt_X5_signed 6 rfl) (by decide) ?_
  refine jz_icmp_eq 25 (dk dt_X5_signed 7 rfl) (by decide) r_9 (by decide) H (fun H => ?_) (fun H => ?_)
  · refine j_iload_n (dk dt_X5_signed 12 rfl) rfl ?_
    refine j_bipush (v := Int32.ofInt 20) (dk dt_X5_signed 13 rfl) (by decide) ?_
    refine jz_icmp_lt 43 (dk dt_X5_signed 14 rfl) (by decide) r_x1 (by decide) H (fun H => ?_) (fun H => ?_)
    · refine j_aload_n (dk dt_X5_signed 21 rfl) rfl ?_
      refine j_dup (dk dt_X5_signed 22 rfl) rfl ?_
      refine jz_getI (kz := 9) (dk dt_X5_signed 23 rfl) fl_X5_112 rfl rfl rfl k_6 ?_
      refine j_iconst (v := Int32.ofInt 1) (dk dt_X5_signed 24 rfl) (by decide) ?_
      refine jz_iadd (dk dt_X5_signed 25 rfl) ?_
      refine jz_putI (kz := 9) (dk dt_X5_signed 26 rfl) fl_X5_112 rfl rfl rfl rfl rfl k_6 w_1 (r32_w _) (fun w_50 => ?_)
      replace H := H _ rfl
      refine j_aload_n (dk dt_X5_signed 27 rfl) rfl ?_
      refine j_iload_n (dk dt_X5_signed 28 rfl) rfl ?_
      refine j_iconst (v := Int32.ofInt 1) (dk dt_X5_signed 29 rfl) (by decide) ?_
      refine jz_iadd (dk dt_X5_signed 30 rfl) ?_
      obtain ⟨c_57, s_57, hc_57, hs_57, H⟩ := H
      refine jz_callV1 (dk dt_X5_signed 31 rfl) vl_X5_124 rfl (ih_X5_signed (r32_w _) w_50 H) k_6 rfl (by omega) hc_57 hs_57 (Nat.le_of_ble_eq_true rfl) (fun v_57 h_57 P_57 => ?_)
      obtain ⟨z_57, rfl, rfl, w_57, H⟩ := P_57
      dsimp only [rs]
      refine j_aload_n (dk dt_X5_signed 32 rfl) rfl ?_
      refine j_bipush (v := Int32.ofInt 13) (dk dt_X5_signed 33 rfl) (by decide) ?_
      refine j_iconst (v := Int32.ofInt 1) (dk dt_X5_signed 34 rfl) (by decide) ?_
      refine j_null (dk dt_X5_signed 35 rfl) ?_
      obtain ⟨k_65, H⟩ := H
      obtain ⟨c_65, s_65, hc_65, hs_65, H⟩ := H
      refine jz_callV3 (dk dt_X5_signed 36 rfl) vl_X5_143 rfl (T_X5_addPart (by decide) (by decide) w_57 H) k_65 rfl (by omega) hc_65 hs_65 (Nat.le_of_ble_eq_true rfl) (fun v_65 h_65 P_65 => ?_)
      obtain ⟨z_65, rfl, rfl, w_65, H⟩ := P_65
      dsimp only [rs]
      exact j_el (T_X5_signed_68  w_65 ih_X5_args ih_X5_atom ih_X5_bracketed ih_X5_expression ih_X5_signed ih_X5_word  H) trivial
    · refine j_aload_n (dk dt_X5_signed 15 rfl) rfl ?_
      refine j_iconst (v := Int32.ofInt 2) (dk dt_X5_signed 16 rfl) (by decide) ?_
      refine j_aload_n (dk dt_X5_signed 17 rfl) rfl ?_
      refine jz_getI (kz := 9) (dk dt_X5_signed 18 rfl) fl_X5_112 rfl rfl rfl k_6 ?_
      refine jz_callV2 (dk dt_X5_signed 19 rfl) vl_X5_62 rfl (T_X5_fail (by decide) (w_1.1 _ _) w_1 H) k_6 rfl (by omega) (Nat.zero_le _) (Nat.zero_le _) (Nat.le_of_ble_eq_true rfl) (fun v_37 h_37 P_37 => ?_)
      obtain ⟨z_37, rfl, rfl, w_37, H⟩ := P_37
      dsimp only [rs]
      refine j_goto 68 (dk dt_X5_signed 20 rfl) (by decide) ?_
      exact j_el (T_X5_signed_68  w_37 ih_X5_args ih_X5_atom ih_X5_bracketed ih_X5_expression ih_X5_signed ih_X5_word  H) trivial
  · refine j_aload_n (dk dt_X5_signed 8 rfl) rfl ?_
    refine j_iload_n (dk dt_X5_signed 9 rfl) rfl ?_
    obtain ⟨c_19, s_19, hc_19, hs_19, H⟩ := H
    refine jz_callV1 (dk dt_X5_signed 10 rfl) vl_X5_149 rfl (ih_X5_atom r_x1 w_1 H) k_6 rfl (by omega) hc_19 hs_19 (Nat.le_of_ble_eq_true rfl) (fun v_19 h_19 P_19 => ?_)
    obtain ⟨z_19, rfl, rfl, w_19, H⟩ := P_19
    dsimp only [rs]
    refine j_goto 68 (dk dt_X5_signed 11 rfl) (by decide) ?_
    exact j_el (T_X5_signed_68  w_19 ih_X5_args ih_X5_atom ih_X5_bracketed ih_X5_expression ih_X5_signed ih_X5_word  H) trivial
def L_X5_word_5 (R_X5_args : Nat → Int → Int → Int → Z → Nat → Nat → (Z → Prop) → Prop) (R_X5_atom : Nat → Int → Z → Nat → Nat → (Z → Prop) → Prop) (R_X5_bracketed : Nat → Int → Z → Nat → Nat → (Z → Prop) → Prop) (R_X5_expression : Nat → Int → Int → Z → Nat → Nat → (Z → Prop) → Prop) (R_X5_signed : Nat → Int → Z → Nat → Nat → (Z → Prop) → Prop) (R_X5_word : Nat → Int → Z → Nat → Nat → (Z → Prop) → Prop) (t0 : Nat) (x1 : Int) (x2 : Int) (z : Z) (c : Nat) (s : Nat) (P : Z ⊕ ((Z)) → Prop) : Prop :=
  (zK z t0 = 6 ∧ (if zI z t0 8 ≤ zI z t0 9 then P (.inr z) else (∃ a_24, zO z t0 0 = some a_24 ∧ zK z a_24 = 14 ∧ (0 ≤ zI z t0 9 ∧ zI z t0 9 < zN z a_24 ∧ F_X11_isLetter (zI z a_24 (zI z t0 9)) (fun x_25 => (if x_25 = 0 then P (.inr z) else (∀ z_38, z_38 = wI z t0 9 (w32 (zI z t0 9 + 1)) → P (.inl z_38))))))))
theorem U_X5_word_5 {n : Nat} {R_X5_args : Nat → Int → Int → Int → Z → Nat → Nat → (Z → Prop) → Prop} {R_X5_atom : Nat → Int → Z → Nat → Nat → (Z → Prop) → Prop} {R_X5_bracketed : Nat → Int → Z → Nat → Nat → (Z → Prop) → Prop} {R_X5_expression : Nat → Int → Int → Z → Nat → Nat → (Z → Prop) → Prop} {R_X5_signed : Nat → Int → Z → Nat → Nat → (Z → Prop) → Prop} {R_X5_word : Nat → Int → Z → Nat → Nat → (Z → Prop) → Prop} {t0 : Nat} {x1 : Int} {x2 : Int} {z : Z} {c : Nat} {s : Nat} {P : Z ⊕ ((Z)) → Prop} {post : Option Sv ⊕ String → Hp → Prop} (r_x1 : R32 x1) (r_x2 : R32 x2) (hw : Wz z) (ih_X5_args : ∀ {t0 : Nat} {x1 : Int} {x2 : Int} {x3 : Int} {z : Z} {c : Nat} {s : Nat} {P : Z → Prop}, R32 x1 → R32 x2 → R32 x3 → Wz z → R_X5_args t0 x1 x2 x3 z c s P → Con mX5_args (9 + n) c s [vr (some t0), ii (x1), ii (x2), ii (x3)] (cz z) (QZV P)) (ih_X5_atom : ∀ {t0 : Nat} {x1 : Int} {z : Z} {c : Nat} {s : Nat} {P : Z → Prop}, R32 x1 → Wz z → R_X5_atom t0 x1 z c s P → Con mX5_atom (9 + n) c s [vr (some t0), ii (x1)] (cz z) (QZV P)) (ih_X5_bracketed : ∀ {t0 : Nat} {x1 : Int} {z : Z} {c : Nat} {s : Nat} {P : Z → Prop}, R32 x1 → Wz z → R_X5_bracketed t0 x1 z c s P → Con mX5_bracketed (9 + n) c s [vr (some t0), ii (x1)] (cz z) (QZV P)) (ih_X5_expression : ∀ {t0 : Nat} {x1 : Int} {x2 : Int} {z : Z} {c : Nat} {s : Nat} {P : Z → Prop}, R32 x1 → R32 x2 → Wz z → R_X5_expression t0 x1 x2 z c s P → Con mX5_expression (9 + n) c s [vr (some t0), ii (x1), ii (x2)] (cz z) (QZV P)) (ih_X5_signed : ∀ {t0 : Nat} {x1 : Int} {z : Z} {c : Nat} {s : Nat} {P : Z → Prop}, R32 x1 → Wz z → R_X5_signed t0 x1 z c s P → Con mX5_signed (9 + n) c s [vr (some t0), ii (x1)] (cz z) (QZV P)) (ih_X5_word : ∀ {t0 : Nat} {x1 : Int} {z : Z} {c : Nat} {s : Nat} {P : Z → Prop}, R32 x1 → Wz z → R_X5_word t0 x1 z c s P → Con mX5_word (9 + n) c s [vr (some t0), ii (x1)] (cz z) (QZV P)) (hl : ∀ (z : Z), P (.inl z) → Wz z → J mX5_word (9 + n + 1) c s post 5 [some (vr (some t0)), some (ii (x1)), some (ii (x2)), none] [] (cz z)) (he0 : ∀ (z : Z), P (.inr z) → Wz z → J mX5_word (9 + n + 1) c s post 44 [some (vr (some t0)), some (ii (x1)), some (ii (x2)), none] [] (cz z)) (H : L_X5_word_5 R_X5_args R_X5_atom R_X5_bracketed R_X5_expression R_X5_signed R_X5_word t0 x1 x2 z c s P) : J mX5_word (9 + n + 1) c s post 5 [some (vr (some t0)), some (ii (x1)), some (ii (x2)), none] [] (cz z) := by
  unfold L_X5_word_5 at H
  refine j_aload_n (dk dt_X5_word 3 rfl) rfl ?_
  obtain ⟨k_6, H⟩ := H
  refine jz_getI (kz := 9) (dk dt_X5_word 4 rfl) fl_X5_112 rfl rfl rfl k_6 ?_
  refine j_aload_n (dk dt_X5_word 5 rfl) rfl ?_
  refine jz_getI (kz := 8) (dk dt_X5_word 6 rfl) fl_X5_42 rfl rfl rfl k_6 ?_
  refine jz_icmp_ge 44 (dk dt_X5_word 7 rfl) (by decide) (hw.1 _ _) (hw.1 _ _) H (fun H => ?_) (fun H => ?_)
  · exact j_el (he0 _ H hw) (And.intro rfl (And.intro rfl (And.intro rfl trivial)))
  · refine j_aload_n (dk dt_X5_word 8 rfl) rfl ?_
    refine jz_getO (kz := 0) (dk dt_X5_word 9 rfl) fl_X5_9 rfl rfl rfl k_6 ?_
    refine j_aload_n (dk dt_X5_word 10 rfl) rfl ?_
    refine jz_getI (kz := 9) (dk dt_X5_word 11 rfl) fl_X5_112 rfl rfl rfl k_6 ?_
    obtain ⟨a_24, e_24, k_24, H⟩ := H
    obtain ⟨p_24, q_24, H⟩ := H
    refine jz_bald (dk dt_X5_word 12 rfl) e_24 k_24 p_24 q_24 hw ?_
    refine j_callSN1 (dk dt_X5_word 13 rfl) snl_X5_179 (T_X11_isLetter (hw.1 _ _) H) rfl (by omega) (Nat.zero_le _) (Nat.zero_le _) (Nat.le_of_ble_eq_true rfl) (fun v_25 h_25 P_25 => ?_)
    obtain ⟨x_25, rfl, r_25, rfl, H⟩ := P_25
    dsimp only [rs]
    refine jz_if_eq 44 (dk dt_X5_word 14 rfl) (by decide) r_25 H (fun H => ?_) (fun H => ?_)
    · exact j_el (he0 _ H hw) (And.intro rfl (And.intro rfl (And.intro rfl trivial)))
    · refine j_aload_n (dk dt_X5_word 15 rfl) rfl ?_
      refine j_dup (dk dt_X5_word 16 rfl) rfl ?_
      refine jz_getI (kz := 9) (dk dt_X5_word 17 rfl) fl_X5_112 rfl rfl rfl k_6 ?_
      refine j_iconst (v := Int32.ofInt 1) (dk dt_X5_word 18 rfl) (by decide) ?_
      refine jz_iadd (dk dt_X5_word 19 rfl) ?_
      refine jz_putI (kz := 9) (dk dt_X5_word 20 rfl) fl_X5_112 rfl rfl rfl rfl rfl k_6 hw (r32_w _) (fun w_38 => ?_)
      replace H := H _ rfl
      refine j_goto 5 (dk dt_X5_word 21 rfl) (by decide) ?_
      exact j_el (hl _ H w_38) (And.intro rfl (And.intro rfl (And.intro rfl trivial)))
def F_X5_word_184 (R_X5_args : Nat → Int → Int → Int → Z → Nat → Nat → (Z → Prop) → Prop) (R_X5_atom : Nat → Int → Z → Nat → Nat → (Z → Prop) → Prop) (R_X5_bracketed : Nat → Int → Z → Nat → Nat → (Z → Prop) → Prop) (R_X5_expression : Nat → Int → Int → Z → Nat → Nat → (Z → Prop) → Prop) (R_X5_signed : Nat → Int → Z → Nat → Nat → (Z → Prop) → Prop) (R_X5_word : Nat → Int → Z → Nat → Nat → (Z → Prop) → Prop) (z : Z) (c : Nat) (s : Nat) (P : Z → Prop) : Prop :=
  P z
theorem T_X5_word_184 {n : Nat} {R_X5_args : Nat → Int → Int → Int → Z → Nat → Nat → (Z → Prop) → Prop} {R_X5_atom : Nat → Int → Z → Nat → Nat → (Z → Prop) → Prop} {R_X5_bracketed : Nat → Int → Z → Nat → Nat → (Z → Prop) → Prop} {R_X5_expression : Nat → Int → Int → Z → Nat → Nat → (Z → Prop) → Prop} {R_X5_signed : Nat → Int → Z → Nat → Nat → (Z → Prop) → Prop} {R_X5_word : Nat → Int → Z → Nat → Nat → (Z → Prop) → Prop} {z : Z} {c : Nat} {s : Nat} {P : Z → Prop}  (hw : Wz z) (ih_X5_args : ∀ {t0 : Nat} {x1 : Int} {x2 : Int} {x3 : Int} {z : Z} {c : Nat} {s : Nat} {P : Z → Prop}, R32 x1 → R32 x2 → R32 x3 → Wz z → R_X5_args t0 x1 x2 x3 z c s P → Con mX5_args (9 + n) c s [vr (some t0), ii (x1), ii (x2), ii (x3)] (cz z) (QZV P)) (ih_X5_atom : ∀ {t0 : Nat} {x1 : Int} {z : Z} {c : Nat} {s : Nat} {P : Z → Prop}, R32 x1 → Wz z → R_X5_atom t0 x1 z c s P → Con mX5_atom (9 + n) c s [vr (some t0), ii (x1)] (cz z) (QZV P)) (ih_X5_bracketed : ∀ {t0 : Nat} {x1 : Int} {z : Z} {c : Nat} {s : Nat} {P : Z → Prop}, R32 x1 → Wz z → R_X5_bracketed t0 x1 z c s P → Con mX5_bracketed (9 + n) c s [vr (some t0), ii (x1)] (cz z) (QZV P)) (ih_X5_expression : ∀ {t0 : Nat} {x1 : Int} {x2 : Int} {z : Z} {c : Nat} {s : Nat} {P : Z → Prop}, R32 x1 → R32 x2 → Wz z → R_X5_expression t0 x1 x2 z c s P → Con mX5_expression (9 + n) c s [vr (some t0), ii (x1), ii (x2)] (cz z) (QZV P)) (ih_X5_signed : ∀ {t0 : Nat} {x1 : Int} {z : Z} {c : Nat} {s : Nat} {P : Z → Prop}, R32 x1 → Wz z → R_X5_signed t0 x1 z c s P → Con mX5_signed (9 + n) c s [vr (some t0), ii (x1)] (cz z) (QZV P)) (ih_X5_word : ∀ {t0 : Nat} {x1 : Int} {z : Z} {c : Nat} {s : Nat} {P : Z → Prop}, R32 x1 → Wz z → R_X5_word t0 x1 z c s P → Con mX5_word (9 + n) c s [vr (some t0), ii (x1)] (cz z) (QZV P))  (H : F_X5_word_184 R_X5_args R_X5_atom R_X5_bracketed R_X5_expression R_X5_signed R_X5_word z c s P) : J mX5_word (9 + n + 1) c s (nx (QZV P)) 184 [none, none, none, none] [] (cz z) := by
  unfold F_X5_word_184 at H
  exact j_return (dk dt_X5_word 100 rfl) rfl ⟨_, rfl, rfl, hw, H⟩
def F_X5_word_85 (R_X5_args : Nat → Int → Int → Int → Z → Nat → Nat → (Z → Prop) → Prop) (R_X5_atom : Nat → Int → Z → Nat → Nat → (Z → Prop) → Prop) (R_X5_bracketed : Nat → Int → Z → Nat → Nat → (Z → Prop) → Prop) (R_X5_expression : Nat → Int → Int → Z → Nat → Nat → (Z → Prop) → Prop) (R_X5_signed : Nat → Int → Z → Nat → Nat → (Z → Prop) → Prop) (R_X5_word : Nat → Int → Z → Nat → Nat → (Z → Prop) → Prop) (t0 : Nat) (x3 : Option Nat) (s0 : Option Nat) (s1 : Int) (z : Z) (c : Nat) (s : Nat) (P : Z → Prop) : Prop :=
  (∃ a_85, s0 = some a_85 ∧ zK z a_85 = 9 ∧ F_X8_setTruth a_85 s1 z (fun z_85 => (zK z_85 t0 = 6 ∧ (∃ c_93 s_93, c_93 ≤ c ∧ s_93 ≤ s ∧ F_X5_addPart t0 14 0 x3 z_85 c_93 s_93 (fun z_93 => P z_93)))))
theorem T_X5_word_85 {n : Nat} {R_X5_args : Nat → Int → Int → Int → Z → Nat → Nat → (Z → Prop) → Prop} {R_X5_atom : Nat → Int → Z → Nat → Nat → (Z → Prop) → Prop} {R_X5_bracketed : Nat → Int → Z → Nat → Nat → (Z → Prop) → Prop} {R_X5_expression : Nat → Int → Int → Z → Nat → Nat → (Z → Prop) → Prop} {R_X5_signed : Nat → Int → Z → Nat → Nat → (Z → Prop) → Prop} {R_X5_word : Nat → Int → Z → Nat → Nat → (Z → Prop) → Prop} {t0 : Nat} {x3 : Option Nat} {s0 : Option Nat} {s1 : Int} {z : Z} {c : Nat} {s : Nat} {P : Z → Prop} (r_s1 : R32 s1) (hw : Wz z) (ih_X5_args : ∀ {t0 : Nat} {x1 : Int} {x2 : Int} {x3 : Int} {z : Z} {c : Nat} {s : Nat} {P : Z → Prop}, R32 x1 → R32 x2 → R32 x3 → Wz z → R_X5_args t0 x1 x2 x3 z c s P → Con mX5_args (9 + n) c s [vr (some t0), ii (x1), ii (x2), ii (x3)] (cz z) (QZV P)) (ih_X5_atom : ∀ {t0 : Nat} {x1 : Int} {z : Z} {c : Nat} {s : Nat} {P : Z → Prop}, R32 x1 → Wz z → R_X5_atom t0 x1 z c s P → Con mX5_atom (9 + n) c s [vr (some t0), ii (x1)] (cz z) (QZV P)) (ih_X5_bracketed : ∀ {t0 : Nat} {x1 : Int} {z : Z} {c : Nat} {s : Nat} {P : Z → Prop}, R32 x1 → Wz z → R_X5_bracketed t0 x1 z c s P → Con mX5_bracketed (9 + n) c s [vr (some t0), ii (x1)] (cz z) (QZV P)) (ih_X5_expression : ∀ {t0 : Nat} {x1 : Int} {x2 : Int} {z : Z} {c : Nat} {s : Nat} {P : Z → Prop}, R32 x1 → R32 x2 → Wz z → R_X5_expression t0 x1 x2 z c s P → Con mX5_expression (9 + n) c s [vr (some t0), ii (x1), ii (x2)] (cz z) (QZV P)) (ih_X5_signed : ∀ {t0 : Nat} {x1 : Int} {z : Z} {c : Nat} {s : Nat} {P : Z → Prop}, R32 x1 → Wz z → R_X5_signed t0 x1 z c s P → Con mX5_signed (9 + n) c s [vr (some t0), ii (x1)] (cz z) (QZV P)) (ih_X5_word : ∀ {t0 : Nat} {x1 : Int} {z : Z} {c : Nat} {s : Nat} {P : Z → Prop}, R32 x1 → Wz z → R_X5_word t0 x1 z c s P → Con mX5_word (9 + n) c s [vr (some t0), ii (x1)] (cz z) (QZV P))  (H : F_X5_word_85 R_X5_args R_X5_atom R_X5_bracketed R_X5_expression R_X5_signed R_X5_word t0 x3 s0 s1 z c s P) : J mX5_word (9 + n + 1) c s (nx (QZV P)) 85 [some (vr (some t0)), none, none, some (vr (x3))] [ii (s1), vr (s0)] (cz z) := by
  unfold F_X5_word_85 at H
  obtain ⟨a_85, e_85, k_85, H⟩ := H
  refine jz_callV1 (dk dt_X5_word 44 rfl) vl_X5_86 e_85 (T_X8_setTruth r_s1 hw H) k_85 rfl (by omega) (Nat.zero_le _) (Nat.zero_le _) (Nat.le_of_ble_eq_true rfl) (fun v_85 h_85 P_85 => ?_)
  obtain ⟨z_85, rfl, rfl, w_85, H⟩ := P_85
  dsimp only [rs]
  refine j_aload_n (dk dt_X5_word 45 rfl) rfl ?_
  refine j_bipush (v := Int32.ofInt 14) (dk dt_X5_word 46 rfl) (by decide) ?_
  refine j_iconst (v := Int32.ofInt 0) (dk dt_X5_word 47 rfl) (by decide) ?_
  refine j_aload_n (dk dt_X5_word 48 rfl) rfl ?_
  obtain ⟨k_93, H⟩ := H
  obtain ⟨c_93, s_93, hc_93, hs_93, H⟩ := H
  refine jz_callV3 (dk dt_X5_word 49 rfl) vl_X5_143 rfl (T_X5_addPart (by decide) (by decide) w_85 H) k_93 rfl (by omega) hc_93 hs_93 (Nat.le_of_ble_eq_true rfl) (fun v_93 h_93 P_93 => ?_)
  obtain ⟨z_93, rfl, rfl, w_93, H⟩ := P_93
  dsimp only [rs]
  exact j_return (dk dt_X5_word 50 rfl) rfl ⟨_, rfl, rfl, w_93, H⟩
def F_X5_word_44 (R_X5_args : Nat → Int → Int → Int → Z → Nat → Nat → (Z → Prop) → Prop) (R_X5_atom : Nat → Int → Z → Nat → Nat → (Z → Prop) → Prop) (R_X5_bracketed : Nat → Int → Z → Nat → Nat → (Z → Prop) → Prop) (R_X5_expression : Nat → Int → Int → Z → Nat → Nat → (Z → Prop) → Prop) (R_X5_signed : Nat → Int → Z → Nat → Nat → (Z → Prop) → Prop) (R_X5_word : Nat → Int → Z → Nat → Nat → (Z → Prop) → Prop) (t0 : Nat) (x1 : Int) (x2 : Int) (z : Z) (c : Nat) (s : Nat) (P : Z → Prop) : Prop :=
  (zK z t0 = 6 ∧ F_X11_isTruth (zO z t0 0) x2 (zI z t0 9) z (fun x_53 => (if x_53 = 0 then F_X5_nameOf t0 x2 (zI z t0 9) z (fun x_103 => (if x_103 = 0 then F_X5_fail t0 1 x2 z (fun z_114 => P z_114) else F_X5_skipBlanks t0 z (fun z_119 => (zK z_119 t0 = 6 ∧ F_X5_byteAt t0 (zI z_119 t0 9) z_119 (fun x_127 => (if x_127 = 40 then (if x1 < 20 then (∀ z_172, z_172 = wI z_119 t0 9 (w32 (zI z_119 t0 9 + 1)) → (∃ c_181 s_181, c_181 ≤ c ∧ s_181 ≤ s ∧ R_X5_args t0 x_103 x2 (w32 (x1 + 1)) z_172 c_181 s_181 (fun z_181 => F_X5_word_184 R_X5_args R_X5_atom R_X5_bracketed R_X5_expression R_X5_signed R_X5_word z_181 (c - c_181) (s - s_181) P))) else F_X5_fail t0 2 (zI z_119 t0 9) z_119 (fun z_159 => F_X5_word_184 R_X5_args R_X5_atom R_X5_bracketed R_X5_expression R_X5_signed R_X5_word z_159 c s P)) else F_X5_placeOrEnd t0 z_119 (fun x_138 => F_X5_fail t0 1 x_138 z_119 (fun z_141 => F_X5_word_184 R_X5_args R_X5_atom R_X5_bracketed R_X5_expression R_X5_signed R_X5_word z_141 c s P)))))))) else (1 ≤ c ∧ 4 ≤ s ∧ ∀ a_59, zK z a_59 = 0 → (∀ z_59, z_59 = nZ z a_59 9 0 → (∃ c_64 s_64, c_64 ≤ c - 1 ∧ s_64 ≤ s - 4 ∧ F_X8_init a_59 0 z_59 c_64 s_64 (fun z_64 => (zK z_64 t0 = 6 ∧ (∃ a_74, zO z_64 t0 0 = some a_74 ∧ zK z_64 a_74 = 14 ∧ (0 ≤ x2 ∧ x2 < zN z_64 a_74 ∧ (if zI z_64 a_74 x2 = 84 then F_X5_word_85 R_X5_args R_X5_atom R_X5_bracketed R_X5_expression R_X5_signed R_X5_word t0 (some a_59) (some a_59) 1 z_64 ((c - 1) - c_64) ((s - 4) - s_64) P else F_X5_word_85 R_X5_args R_X5_atom R_X5_bracketed R_X5_expression R_X5_signed R_X5_word t0 (some a_59) (some a_59) 0 z_64 ((c - 1) - c_64) ((s - 4) - s_64) P)))))))))))
theorem T_X5_word_44 {n : Nat} {R_X5_args : Nat → Int → Int → Int → Z → Nat → Nat → (Z → Prop) → Prop} {R_X5_atom : Nat → Int → Z → Nat → Nat → (Z → Prop) → Prop} {R_X5_bracketed : Nat → Int → Z → Nat → Nat → (Z → Prop) → Prop} {R_X5_expression : Nat → Int → Int → Z → Nat → Nat → (Z → Prop) → Prop} {R_X5_signed : Nat → Int → Z → Nat → Nat → (Z → Prop) → Prop} {R_X5_word : Nat → Int → Z → Nat → Nat → (Z → Prop) → Prop} {t0 : Nat} {x1 : Int} {x2 : Int} {z : Z} {c : Nat} {s : Nat} {P : Z → Prop} (r_x1 : R32 x1) (r_x2 : R32 x2) (hw : Wz z) (ih_X5_args : ∀ {t0 : Nat} {x1 : Int} {x2 : Int} {x3 : Int} {z : Z} {c : Nat} {s : Nat} {P : Z → Prop}, R32 x1 → R32 x2 → R32 x3 → Wz z → R_X5_args t0 x1 x2 x3 z c s P → Con mX5_args (9 + n) c s [vr (some t0), ii (x1), ii (x2), ii (x3)] (cz z) (QZV P)) (ih_X5_atom : ∀ {t0 : Nat} {x1 : Int} {z : Z} {c : Nat} {s : Nat} {P : Z → Prop}, R32 x1 → Wz z → R_X5_atom t0 x1 z c s P → Con mX5_atom (9 + n) c s [vr (some t0), ii (x1)] (cz z) (QZV P)) (ih_X5_bracketed : ∀ {t0 : Nat} {x1 : Int} {z : Z} {c : Nat} {s : Nat} {P : Z → Prop}, R32 x1 → Wz z → R_X5_bracketed t0 x1 z c s P → Con mX5_bracketed (9 + n) c s [vr (some t0), ii (x1)] (cz z) (QZV P)) (ih_X5_expression : ∀ {t0 : Nat} {x1 : Int} {x2 : Int} {z : Z} {c : Nat} {s : Nat} {P : Z → Prop}, R32 x1 → R32 x2 → Wz z → R_X5_expression t0 x1 x2 z c s P → Con mX5_expression (9 + n) c s [vr (some t0), ii (x1), ii (x2)] (cz z) (QZV P)) (ih_X5_signed : ∀ {t0 : Nat} {x1 : Int} {z : Z} {c : Nat} {s : Nat} {P : Z → Prop}, R32 x1 → Wz z → R_X5_signed t0 x1 z c s P → Con mX5_signed (9 + n) c s [vr (some t0), ii (x1)] (cz z) (QZV P)) (ih_X5_word : ∀ {t0 : Nat} {x1 : Int} {z : Z} {c : Nat} {s : Nat} {P : Z → Prop}, R32 x1 → Wz z → R_X5_word t0 x1 z c s P → Con mX5_word (9 + n) c s [vr (some t0), ii (x1)] (cz z) (QZV P))  (H : F_X5_word_44 R_X5_args R_X5_atom R_X5_bracketed R_X5_expression R_X5_signed R_X5_word t0 x1 x2 z c s P) : J mX5_word (9 + n + 1) c s (nx (QZV P)) 44 [some (vr (some t0)), some (ii (x1)), some (ii (x2)), none] [] (cz z) := by
  unfold F_X5_word_44 at H
  refine j_aload_n (dk dt_X5_word 22 rfl) rfl ?_
  obtain ⟨k_45, H⟩ := H
  refine jz_getO (kz := 0) (dk dt_X5_word 23 rfl) fl_X5_9 rfl rfl rfl k_45 ?_
  refine j_iload_n (dk dt_X5_word 24 rfl) rfl ?_
  refine j_aload_n (dk dt_X5_word 25 rfl) rfl ?_
  refine jz_getI (kz := 9) (dk dt_X5_word 26 rfl) fl_X5_112 rfl rfl rfl k_45 ?_
  refine j_callSN3 (dk dt_X5_word 27 rfl) snl_X5_83 (T_X11_isTruth r_x2 (hw.1 _ _) hw H) rfl (by omega) (Nat.zero_le _) (Nat.zero_le _) (Nat.le_of_ble_eq_true rfl) (fun v_53 h_53 P_53 => ?_)
  obtain ⟨x_53, rfl, r_53, rfl, H⟩ := P_53
  dsimp only [rs]
  refine jz_if_eq 97 (dk dt_X5_word 28 rfl) (by decide) r_53 H (fun H => ?_) (fun H => ?_)
  · refine j_aload_n (dk dt_X5_word 51 rfl) rfl ?_
    refine j_iload_n (dk dt_X5_word 52 rfl) rfl ?_
    refine j_aload_n (dk dt_X5_word 53 rfl) rfl ?_
    refine jz_getI (kz := 9) (dk dt_X5_word 54 rfl) fl_X5_112 rfl rfl rfl k_45 ?_
    refine jz_callV2 (dk dt_X5_word 55 rfl) vl_X5_253 rfl (T_X5_nameOf r_x2 (hw.1 _ _) hw H) k_45 rfl (by omega) (Nat.zero_le _) (Nat.zero_le _) (Nat.le_of_ble_eq_true rfl) (fun v_103 h_103 P_103 => ?_)
    obtain ⟨x_103, rfl, r_103, rfl, H⟩ := P_103
    dsimp only [rs]
    refine j_istore_n (dk dt_X5_word 56 rfl) (by decide) ?_
    refine j_iload_n (dk dt_X5_word 57 rfl) rfl ?_
    refine jz_if_ne 118 (dk dt_X5_word 58 rfl) (by decide) r_103 H (fun H => ?_) (fun H => ?_)
    · refine j_aload_n (dk dt_X5_word 59 rfl) rfl ?_
      refine j_iconst (v := Int32.ofInt 1) (dk dt_X5_word 60 rfl) (by decide) ?_
      refine j_iload_n (dk dt_X5_word 61 rfl) rfl ?_
      refine jz_callV2 (dk dt_X5_word 62 rfl) vl_X5_62 rfl (T_X5_fail (by decide) r_x2 hw H) k_45 rfl (by omega) (Nat.zero_le _) (Nat.zero_le _) (Nat.le_of_ble_eq_true rfl) (fun v_114 h_114 P_114 => ?_)
      obtain ⟨z_114, rfl, rfl, w_114, H⟩ := P_114
      dsimp only [rs]
      exact j_return (dk dt_X5_word 63 rfl) rfl ⟨_, rfl, rfl, w_114, H⟩
    · refine j_aload_n (dk dt_X5_word 64 rfl) rfl ?_
      refine jz_callV0 (dk dt_X5_word 65 rfl) vl_X5_118 rfl (T_X5_skipBlanks hw H) k_45 rfl (by omega) (Nat.zero_le _) (Nat.zero_le _) (Nat.le_of_ble_eq_true rfl) (fun v_119 h_119 P_119 => ?_)
      obtain ⟨z_119, rfl, rfl, w_119, H⟩ := P_119
      dsimp only [rs]
      refine j_aload_n (dk dt_X5_word 66 rfl) rfl ?_
      refine j_aload_n (dk dt_X5_word 67 rfl) rfl ?_
      obtain ⟨k_124, H⟩ := H
      refine jz_getI (kz := 9) (dk dt_X5_word 68 rfl) fl_X5_112 rfl rfl rfl k_124 ?_
      refine jz_callV1 (dk dt_X5_word 69 rfl) vl_X5_146 rfl (T_X5_byteAt (w_119.1 _ _) w_119 H) k_124 rfl (by omega) (Nat.zero_le _) (Nat.zero_le _) (Nat.le_of_ble_eq_true rfl) (fun v_127 h_127 P_127 => ?_)
      obtain ⟨x_127, rfl, r_127, rfl, H⟩ := P_127
      dsimp only [rs]
      refine j_bipush (v := Int32.ofInt 40) (dk dt_X5_word 70 rfl) (by decide) ?_
      refine jz_icmp_eq 147 (dk dt_X5_word 71 rfl) (by decide) r_127 (by decide) H (fun H => ?_) (fun H => ?_)
      · refine j_iload_n (dk dt_X5_word 78 rfl) rfl ?_
        refine j_bipush (v := Int32.ofInt 20) (dk dt_X5_word 79 rfl) (by decide) ?_
        refine jz_icmp_lt 165 (dk dt_X5_word 80 rfl) (by decide) r_x1 (by decide) H (fun H => ?_) (fun H => ?_)
        · refine j_aload_n (dk dt_X5_word 87 rfl) rfl ?_
          refine j_dup (dk dt_X5_word 88 rfl) rfl ?_
          refine jz_getI (kz := 9) (dk dt_X5_word 89 rfl) fl_X5_112 rfl rfl rfl k_124 ?_
          refine j_iconst (v := Int32.ofInt 1) (dk dt_X5_word 90 rfl) (by decide) ?_
          refine jz_iadd (dk dt_X5_word 91 rfl) ?_
          refine jz_putI (kz := 9) (dk dt_X5_word 92 rfl) fl_X5_112 rfl rfl rfl rfl rfl k_124 w_119 (r32_w _) (fun w_172 => ?_)
          replace H := H _ rfl
          refine j_aload_n (dk dt_X5_word 93 rfl) rfl ?_
          refine j_iload_n (dk dt_X5_word 94 rfl) rfl ?_
          refine j_iload_n (dk dt_X5_word 95 rfl) rfl ?_
          refine j_iload_n (dk dt_X5_word 96 rfl) rfl ?_
          refine j_iconst (v := Int32.ofInt 1) (dk dt_X5_word 97 rfl) (by decide) ?_
          refine jz_iadd (dk dt_X5_word 98 rfl) ?_
          obtain ⟨c_181, s_181, hc_181, hs_181, H⟩ := H
          refine jz_callV3 (dk dt_X5_word 99 rfl) vl_X5_256 rfl (ih_X5_args r_103 r_x2 (r32_w _) w_172 H) k_124 rfl (by omega) hc_181 hs_181 (Nat.le_of_ble_eq_true rfl) (fun v_181 h_181 P_181 => ?_)
          obtain ⟨z_181, rfl, rfl, w_181, H⟩ := P_181
          dsimp only [rs]
          exact j_el (T_X5_word_184  w_181 ih_X5_args ih_X5_atom ih_X5_bracketed ih_X5_expression ih_X5_signed ih_X5_word  H) trivial
        · refine j_aload_n (dk dt_X5_word 81 rfl) rfl ?_
          refine j_iconst (v := Int32.ofInt 2) (dk dt_X5_word 82 rfl) (by decide) ?_
          refine j_aload_n (dk dt_X5_word 83 rfl) rfl ?_
          refine jz_getI (kz := 9) (dk dt_X5_word 84 rfl) fl_X5_112 rfl rfl rfl k_124 ?_
          refine jz_callV2 (dk dt_X5_word 85 rfl) vl_X5_62 rfl (T_X5_fail (by decide) (w_119.1 _ _) w_119 H) k_124 rfl (by omega) (Nat.zero_le _) (Nat.zero_le _) (Nat.le_of_ble_eq_true rfl) (fun v_159 h_159 P_159 => ?_)
          obtain ⟨z_159, rfl, rfl, w_159, H⟩ := P_159
          dsimp only [rs]
          refine j_goto 184 (dk dt_X5_word 86 rfl) (by decide) ?_
          exact j_el (T_X5_word_184  w_159 ih_X5_args ih_X5_atom ih_X5_bracketed ih_X5_expression ih_X5_signed ih_X5_word  H) trivial
      · refine j_aload_n (dk dt_X5_word 72 rfl) rfl ?_
        refine j_iconst (v := Int32.ofInt 1) (dk dt_X5_word 73 rfl) (by decide) ?_
        refine j_aload_n (dk dt_X5_word 74 rfl) rfl ?_
        refine jz_callV0 (dk dt_X5_word 75 rfl) vl_X5_185 rfl (T_X5_placeOrEnd w_119 H) k_124 rfl (by omega) (Nat.zero_le _) (Nat.zero_le _) (Nat.le_of_ble_eq_true rfl) (fun v_138 h_138 P_138 => ?_)
        obtain ⟨x_138, rfl, r_138, rfl, H⟩ := P_138
        dsimp only [rs]
        refine jz_callV2 (dk dt_X5_word 76 rfl) vl_X5_62 rfl (T_X5_fail (by decide) r_138 w_119 H) k_124 rfl (by omega) (Nat.zero_le _) (Nat.zero_le _) (Nat.le_of_ble_eq_true rfl) (fun v_141 h_141 P_141 => ?_)
        obtain ⟨z_141, rfl, rfl, w_141, H⟩ := P_141
        dsimp only [rs]
        refine j_goto 184 (dk dt_X5_word 77 rfl) (by decide) ?_
        exact j_el (T_X5_word_184  w_141 ih_X5_args ih_X5_atom ih_X5_bracketed ih_X5_expression ih_X5_signed ih_X5_word  H) trivial
  · obtain ⟨hc_59, hs_59, H⟩ := H
    refine jz_new (dk dt_X5_word 29 rfl) cl_8 nl_X5_66 iw_8 zw_8 rfl hc_59 hs_59 hw (fun a_59 e_59 w_59 => ?_)
    replace H := H a_59 e_59
    replace H := H _ rfl
    refine j_dup (dk dt_X5_word 30 rfl) rfl ?_
    refine j_iconst (v := Int32.ofInt 0) (dk dt_X5_word 31 rfl) (by decide) ?_
    obtain ⟨c_64, s_64, hc_64, hs_64, H⟩ := H
    refine jz_callI1 (dk dt_X5_word 32 rfl) il_X5_68 rfl (T_X8_init (by decide) w_59 H) rfl (by omega) hc_64 hs_64 (Nat.le_of_ble_eq_true rfl) (fun v_64 h_64 P_64 => ?_)
    obtain ⟨z_64, rfl, rfl, w_64, H⟩ := P_64
    dsimp only [rs]
    refine j_astore_n (dk dt_X5_word 33 rfl) (by decide) ?_
    refine j_aload_n (dk dt_X5_word 34 rfl) rfl ?_
    refine j_aload_n (dk dt_X5_word 35 rfl) rfl ?_
    obtain ⟨k_70, H⟩ := H
    refine jz_getO (kz := 0) (dk dt_X5_word 36 rfl) fl_X5_9 rfl rfl rfl k_70 ?_
    refine j_iload_n (dk dt_X5_word 37 rfl) rfl ?_
    obtain ⟨a_74, e_74, k_74, H⟩ := H
    obtain ⟨p_74, q_74, H⟩ := H
    refine jz_bald (dk dt_X5_word 38 rfl) e_74 k_74 p_74 q_74 w_64 ?_
    refine j_bipush (v := Int32.ofInt 84) (dk dt_X5_word 39 rfl) (by decide) ?_
    refine jz_icmp_ne 84 (dk dt_X5_word 40 rfl) (by decide) (w_64.1 _ _) (by decide) H (fun H => ?_) (fun H => ?_)
    · refine j_iconst (v := Int32.ofInt 1) (dk dt_X5_word 41 rfl) (by decide) ?_
      refine j_goto 85 (dk dt_X5_word 42 rfl) (by decide) ?_
      exact j_el (T_X5_word_85 (by decide) w_64 ih_X5_args ih_X5_atom ih_X5_bracketed ih_X5_expression ih_X5_signed ih_X5_word  H) (And.intro rfl (And.intro rfl trivial))
    · refine j_iconst (v := Int32.ofInt 0) (dk dt_X5_word 43 rfl) (by decide) ?_
      exact j_el (T_X5_word_85 (by decide) w_64 ih_X5_args ih_X5_atom ih_X5_bracketed ih_X5_expression ih_X5_signed ih_X5_word  H) (And.intro rfl (And.intro rfl trivial))
def F_X5_word_5 (R_X5_args : Nat → Int → Int → Int → Z → Nat → Nat → (Z → Prop) → Prop) (R_X5_atom : Nat → Int → Z → Nat → Nat → (Z → Prop) → Prop) (R_X5_bracketed : Nat → Int → Z → Nat → Nat → (Z → Prop) → Prop) (R_X5_expression : Nat → Int → Int → Z → Nat → Nat → (Z → Prop) → Prop) (R_X5_signed : Nat → Int → Z → Nat → Nat → (Z → Prop) → Prop) (R_X5_word : Nat → Int → Z → Nat → Nat → (Z → Prop) → Prop) (t0 : Nat) (x1 : Int) (x2 : Int) (z : Z) (c : Nat) (s : Nat) (P : Z → Prop) : Prop :=
  lp (S := Z) (E := (Z)) (fun q P_ => L_X5_word_5 R_X5_args R_X5_atom R_X5_bracketed R_X5_expression R_X5_signed R_X5_word t0 x1 x2 q c s P_) z (fun (z : Z) => F_X5_word_44 R_X5_args R_X5_atom R_X5_bracketed R_X5_expression R_X5_signed R_X5_word t0 x1 x2 z c s P)
theorem T_X5_word_5 {n : Nat} {R_X5_args : Nat → Int → Int → Int → Z → Nat → Nat → (Z → Prop) → Prop} {R_X5_atom : Nat → Int → Z → Nat → Nat → (Z → Prop) → Prop} {R_X5_bracketed : Nat → Int → Z → Nat → Nat → (Z → Prop) → Prop} {R_X5_expression : Nat → Int → Int → Z → Nat → Nat → (Z → Prop) → Prop} {R_X5_signed : Nat → Int → Z → Nat → Nat → (Z → Prop) → Prop} {R_X5_word : Nat → Int → Z → Nat → Nat → (Z → Prop) → Prop} {t0 : Nat} {x1 : Int} {x2 : Int} {z : Z} {c : Nat} {s : Nat} {P : Z → Prop} (r_x1 : R32 x1) (r_x2 : R32 x2) (hw : Wz z) (ih_X5_args : ∀ {t0 : Nat} {x1 : Int} {x2 : Int} {x3 : Int} {z : Z} {c : Nat} {s : Nat} {P : Z → Prop}, R32 x1 → R32 x2 → R32 x3 → Wz z → R_X5_args t0 x1 x2 x3 z c s P → Con mX5_args (9 + n) c s [vr (some t0), ii (x1), ii (x2), ii (x3)] (cz z) (QZV P)) (ih_X5_atom : ∀ {t0 : Nat} {x1 : Int} {z : Z} {c : Nat} {s : Nat} {P : Z → Prop}, R32 x1 → Wz z → R_X5_atom t0 x1 z c s P → Con mX5_atom (9 + n) c s [vr (some t0), ii (x1)] (cz z) (QZV P)) (ih_X5_bracketed : ∀ {t0 : Nat} {x1 : Int} {z : Z} {c : Nat} {s : Nat} {P : Z → Prop}, R32 x1 → Wz z → R_X5_bracketed t0 x1 z c s P → Con mX5_bracketed (9 + n) c s [vr (some t0), ii (x1)] (cz z) (QZV P)) (ih_X5_expression : ∀ {t0 : Nat} {x1 : Int} {x2 : Int} {z : Z} {c : Nat} {s : Nat} {P : Z → Prop}, R32 x1 → R32 x2 → Wz z → R_X5_expression t0 x1 x2 z c s P → Con mX5_expression (9 + n) c s [vr (some t0), ii (x1), ii (x2)] (cz z) (QZV P)) (ih_X5_signed : ∀ {t0 : Nat} {x1 : Int} {z : Z} {c : Nat} {s : Nat} {P : Z → Prop}, R32 x1 → Wz z → R_X5_signed t0 x1 z c s P → Con mX5_signed (9 + n) c s [vr (some t0), ii (x1)] (cz z) (QZV P)) (ih_X5_word : ∀ {t0 : Nat} {x1 : Int} {z : Z} {c : Nat} {s : Nat} {P : Z → Prop}, R32 x1 → Wz z → R_X5_word t0 x1 z c s P → Con mX5_word (9 + n) c s [vr (some t0), ii (x1)] (cz z) (QZV P))  (H : F_X5_word_5 R_X5_args R_X5_atom R_X5_bracketed R_X5_expression R_X5_signed R_X5_word t0 x1 x2 z c s P) : J mX5_word (9 + n + 1) c s (nx (QZV P)) 5 [some (vr (some t0)), some (ii (x1)), some (ii (x2)), none] [] (cz z) := by
  unfold F_X5_word_5 at H
  refine lp_J (G := fun q => Wz (q) → J mX5_word (9 + n + 1) c s (nx (QZV P)) 5 [some (vr (some t0)), some (ii (x1)), some (ii (x2)), none] [] (cz (q))) (fun z P_ hl_ he_ Hb => ?_) z H hw
  intro hw
  refine U_X5_word_5 (P := P_) r_x1 r_x2 hw ih_X5_args ih_X5_atom ih_X5_bracketed ih_X5_expression ih_X5_signed ih_X5_word (fun z Hp hw => hl_ z Hp hw) ?_ Hb
  · intro z Hp hw
    have H := he_ _ Hp
    exact j_el (T_X5_word_44 r_x1 r_x2 hw ih_X5_args ih_X5_atom ih_X5_bracketed ih_X5_expression ih_X5_signed ih_X5_word  H) (And.intro rfl (And.intro rfl (And.intro rfl trivial)))
def B_X5_word (R_X5_args : Nat → Int → Int → Int → Z → Nat → Nat → (Z → Prop) → Prop) (R_X5_atom : Nat → Int → Z → Nat → Nat → (Z → Prop) → Prop) (R_X5_bracketed : Nat → Int → Z → Nat → Nat → (Z → Prop) → Prop) (R_X5_expression : Nat → Int → Int → Z → Nat → Nat → (Z → Prop) → Prop) (R_X5_signed : Nat → Int → Z → Nat → Nat → (Z → Prop) → Prop) (R_X5_word : Nat → Int → Z → Nat → Nat → (Z → Prop) → Prop) (t0 : Nat) (x1 : Int) (z : Z) (c : Nat) (s : Nat) (P : Z → Prop) : Prop :=
  (zK z t0 = 6 ∧ F_X5_word_5 R_X5_args R_X5_atom R_X5_bracketed R_X5_expression R_X5_signed R_X5_word t0 x1 (zI z t0 9) z c s P)
theorem V_X5_word {n : Nat} {R_X5_args : Nat → Int → Int → Int → Z → Nat → Nat → (Z → Prop) → Prop} {R_X5_atom : Nat → Int → Z → Nat → Nat → (Z → Prop) → Prop} {R_X5_bracketed : Nat → Int → Z → Nat → Nat → (Z → Prop) → Prop} {R_X5_expression : Nat → Int → Int → Z → Nat → Nat → (Z → Prop) → Prop} {R_X5_signed : Nat → Int → Z → Nat → Nat → (Z → Prop) → Prop} {R_X5_word : Nat → Int → Z → Nat → Nat → (Z → Prop) → Prop} {t0 : Nat} {x1 : Int} {z : Z} {c : Nat} {s : Nat} {P : Z → Prop} (r_x1 : R32 x1) (hw : Wz z) (ih_X5_args : ∀ {t0 : Nat} {x1 : Int} {x2 : Int} {x3 : Int} {z : Z} {c : Nat} {s : Nat} {P : Z → Prop}, R32 x1 → R32 x2 → R32 x3 → Wz z → R_X5_args t0 x1 x2 x3 z c s P → Con mX5_args (9 + n) c s [vr (some t0), ii (x1), ii (x2), ii (x3)] (cz z) (QZV P)) (ih_X5_atom : ∀ {t0 : Nat} {x1 : Int} {z : Z} {c : Nat} {s : Nat} {P : Z → Prop}, R32 x1 → Wz z → R_X5_atom t0 x1 z c s P → Con mX5_atom (9 + n) c s [vr (some t0), ii (x1)] (cz z) (QZV P)) (ih_X5_bracketed : ∀ {t0 : Nat} {x1 : Int} {z : Z} {c : Nat} {s : Nat} {P : Z → Prop}, R32 x1 → Wz z → R_X5_bracketed t0 x1 z c s P → Con mX5_bracketed (9 + n) c s [vr (some t0), ii (x1)] (cz z) (QZV P)) (ih_X5_expression : ∀ {t0 : Nat} {x1 : Int} {x2 : Int} {z : Z} {c : Nat} {s : Nat} {P : Z → Prop}, R32 x1 → R32 x2 → Wz z → R_X5_expression t0 x1 x2 z c s P → Con mX5_expression (9 + n) c s [vr (some t0), ii (x1), ii (x2)] (cz z) (QZV P)) (ih_X5_signed : ∀ {t0 : Nat} {x1 : Int} {z : Z} {c : Nat} {s : Nat} {P : Z → Prop}, R32 x1 → Wz z → R_X5_signed t0 x1 z c s P → Con mX5_signed (9 + n) c s [vr (some t0), ii (x1)] (cz z) (QZV P)) (ih_X5_word : ∀ {t0 : Nat} {x1 : Int} {z : Z} {c : Nat} {s : Nat} {P : Z → Prop}, R32 x1 → Wz z → R_X5_word t0 x1 z c s P → Con mX5_word (9 + n) c s [vr (some t0), ii (x1)] (cz z) (QZV P)) (H : B_X5_word R_X5_args R_X5_atom R_X5_bracketed R_X5_expression R_X5_signed R_X5_word t0 x1 z c s P) : Con mX5_word (9 + n + 1) c s [vr (some t0), ii (x1)] (cz z) (QZV P) := by
  refine con_of rfl (Nat.le_of_ble_eq_true rfl) (by decide) ?_
  show J mX5_word (9 + n + 1) c s _ 0 [some (vr (some t0)), some (ii (x1)), none, none] [] (cz z)
  unfold B_X5_word at H
  refine j_aload_n (dk dt_X5_word 0 rfl) rfl ?_
  obtain ⟨k_1, H⟩ := H
  refine jz_getI (kz := 9) (dk dt_X5_word 1 rfl) fl_X5_112 rfl rfl rfl k_1 ?_
  refine j_istore_n (dk dt_X5_word 2 rfl) (by decide) ?_
  exact j_el (T_X5_word_5 r_x1 (hw.1 _ _) hw ih_X5_args ih_X5_atom ih_X5_bracketed ih_X5_expression ih_X5_signed ih_X5_word  H) (And.intro rfl (And.intro rfl (And.intro rfl trivial)))
def RG_X5_args : Nat → (Nat → Int → Int → Int → Z → Nat → Nat → (Z → Prop) → Prop) × (Nat → Int → Z → Nat → Nat → (Z → Prop) → Prop) × (Nat → Int → Z → Nat → Nat → (Z → Prop) → Prop) × (Nat → Int → Int → Z → Nat → Nat → (Z → Prop) → Prop) × (Nat → Int → Z → Nat → Nat → (Z → Prop) → Prop) × (Nat → Int → Z → Nat → Nat → (Z → Prop) → Prop)
  | 0 => ((fun _ _ _ _ _ _ _ _ => False), (fun _ _ _ _ _ _ => False), (fun _ _ _ _ _ _ => False), (fun _ _ _ _ _ _ _ => False), (fun _ _ _ _ _ _ => False), (fun _ _ _ _ _ _ => False))
  | n + 1 => (B_X5_args ((RG_X5_args n).1) ((RG_X5_args n).2.1) ((RG_X5_args n).2.2.1) ((RG_X5_args n).2.2.2.1) ((RG_X5_args n).2.2.2.2.1) ((RG_X5_args n).2.2.2.2.2), B_X5_atom ((RG_X5_args n).1) ((RG_X5_args n).2.1) ((RG_X5_args n).2.2.1) ((RG_X5_args n).2.2.2.1) ((RG_X5_args n).2.2.2.2.1) ((RG_X5_args n).2.2.2.2.2), B_X5_bracketed ((RG_X5_args n).1) ((RG_X5_args n).2.1) ((RG_X5_args n).2.2.1) ((RG_X5_args n).2.2.2.1) ((RG_X5_args n).2.2.2.2.1) ((RG_X5_args n).2.2.2.2.2), B_X5_expression ((RG_X5_args n).1) ((RG_X5_args n).2.1) ((RG_X5_args n).2.2.1) ((RG_X5_args n).2.2.2.1) ((RG_X5_args n).2.2.2.2.1) ((RG_X5_args n).2.2.2.2.2), B_X5_signed ((RG_X5_args n).1) ((RG_X5_args n).2.1) ((RG_X5_args n).2.2.1) ((RG_X5_args n).2.2.2.1) ((RG_X5_args n).2.2.2.2.1) ((RG_X5_args n).2.2.2.2.2), B_X5_word ((RG_X5_args n).1) ((RG_X5_args n).2.1) ((RG_X5_args n).2.2.1) ((RG_X5_args n).2.2.2.1) ((RG_X5_args n).2.2.2.2.1) ((RG_X5_args n).2.2.2.2.2))
theorem RT_X5_args : ∀ n : Nat, (∀ {t0 : Nat} {x1 : Int} {x2 : Int} {x3 : Int} {z : Z} {c : Nat} {s : Nat} {P : Z → Prop}, R32 x1 → R32 x2 → R32 x3 → Wz z → (RG_X5_args n).1 t0 x1 x2 x3 z c s P → Con mX5_args (9 + n) c s [vr (some t0), ii (x1), ii (x2), ii (x3)] (cz z) (QZV P)) ∧ (∀ {t0 : Nat} {x1 : Int} {z : Z} {c : Nat} {s : Nat} {P : Z → Prop}, R32 x1 → Wz z → (RG_X5_args n).2.1 t0 x1 z c s P → Con mX5_atom (9 + n) c s [vr (some t0), ii (x1)] (cz z) (QZV P)) ∧ (∀ {t0 : Nat} {x1 : Int} {z : Z} {c : Nat} {s : Nat} {P : Z → Prop}, R32 x1 → Wz z → (RG_X5_args n).2.2.1 t0 x1 z c s P → Con mX5_bracketed (9 + n) c s [vr (some t0), ii (x1)] (cz z) (QZV P)) ∧ (∀ {t0 : Nat} {x1 : Int} {x2 : Int} {z : Z} {c : Nat} {s : Nat} {P : Z → Prop}, R32 x1 → R32 x2 → Wz z → (RG_X5_args n).2.2.2.1 t0 x1 x2 z c s P → Con mX5_expression (9 + n) c s [vr (some t0), ii (x1), ii (x2)] (cz z) (QZV P)) ∧ (∀ {t0 : Nat} {x1 : Int} {z : Z} {c : Nat} {s : Nat} {P : Z → Prop}, R32 x1 → Wz z → (RG_X5_args n).2.2.2.2.1 t0 x1 z c s P → Con mX5_signed (9 + n) c s [vr (some t0), ii (x1)] (cz z) (QZV P)) ∧ (∀ {t0 : Nat} {x1 : Int} {z : Z} {c : Nat} {s : Nat} {P : Z → Prop}, R32 x1 → Wz z → (RG_X5_args n).2.2.2.2.2 t0 x1 z c s P → Con mX5_word (9 + n) c s [vr (some t0), ii (x1)] (cz z) (QZV P)) := by
  intro n
  induction n with
  | zero => exact ⟨fun _ _ _ _ H => (show False from H).elim, fun _ _ H => (show False from H).elim, fun _ _ H => (show False from H).elim, fun _ _ _ H => (show False from H).elim, fun _ _ H => (show False from H).elim, fun _ _ H => (show False from H).elim⟩
  | succ n ih => exact ⟨fun a0 a1 a2 w H => V_X5_args a0 a1 a2 w ih.1 ih.2.1 ih.2.2.1 ih.2.2.2.1 ih.2.2.2.2.1 ih.2.2.2.2.2 H, fun a0 w H => V_X5_atom a0 w ih.1 ih.2.1 ih.2.2.1 ih.2.2.2.1 ih.2.2.2.2.1 ih.2.2.2.2.2 H, fun a0 w H => V_X5_bracketed a0 w ih.1 ih.2.1 ih.2.2.1 ih.2.2.2.1 ih.2.2.2.2.1 ih.2.2.2.2.2 H, fun a0 a1 w H => V_X5_expression a0 a1 w ih.1 ih.2.1 ih.2.2.1 ih.2.2.2.1 ih.2.2.2.2.1 ih.2.2.2.2.2 H, fun a0 w H => V_X5_signed a0 w ih.1 ih.2.1 ih.2.2.1 ih.2.2.2.1 ih.2.2.2.2.1 ih.2.2.2.2.2 H, fun a0 w H => V_X5_word a0 w ih.1 ih.2.1 ih.2.2.1 ih.2.2.2.1 ih.2.2.2.2.1 ih.2.2.2.2.2 H⟩
def F_X5_args (n : Nat) (t0 : Nat) (x1 : Int) (x2 : Int) (x3 : Int) (z : Z) (c : Nat) (s : Nat) (P : Z → Prop) : Prop := (RG_X5_args n).1 t0 x1 x2 x3 z c s P
def F_X5_atom (n : Nat) (t0 : Nat) (x1 : Int) (z : Z) (c : Nat) (s : Nat) (P : Z → Prop) : Prop := (RG_X5_args n).2.1 t0 x1 z c s P
def F_X5_bracketed (n : Nat) (t0 : Nat) (x1 : Int) (z : Z) (c : Nat) (s : Nat) (P : Z → Prop) : Prop := (RG_X5_args n).2.2.1 t0 x1 z c s P
def F_X5_expression (n : Nat) (t0 : Nat) (x1 : Int) (x2 : Int) (z : Z) (c : Nat) (s : Nat) (P : Z → Prop) : Prop := (RG_X5_args n).2.2.2.1 t0 x1 x2 z c s P
def F_X5_signed (n : Nat) (t0 : Nat) (x1 : Int) (z : Z) (c : Nat) (s : Nat) (P : Z → Prop) : Prop := (RG_X5_args n).2.2.2.2.1 t0 x1 z c s P
def F_X5_word (n : Nat) (t0 : Nat) (x1 : Int) (z : Z) (c : Nat) (s : Nat) (P : Z → Prop) : Prop := (RG_X5_args n).2.2.2.2.2 t0 x1 z c s P
theorem F_X5_args_s (n : Nat) (t0 : Nat) (x1 : Int) (x2 : Int) (x3 : Int) (z : Z) (c : Nat) (s : Nat) (P : Z → Prop) : F_X5_args (n + 1) t0 x1 x2 x3 z c s P = B_X5_args (F_X5_args n) (F_X5_atom n) (F_X5_bracketed n) (F_X5_expression n) (F_X5_signed n) (F_X5_word n) t0 x1 x2 x3 z c s P := rfl
theorem T_X5_args {n : Nat} {t0 : Nat} {x1 : Int} {x2 : Int} {x3 : Int} {z : Z} {c : Nat} {s : Nat} {P : Z → Prop} (r_x1 : R32 x1) (r_x2 : R32 x2) (r_x3 : R32 x3) (hw : Wz z) (H : F_X5_args n t0 x1 x2 x3 z c s P) : Con mX5_args (9 + n) c s [vr (some t0), ii (x1), ii (x2), ii (x3)] (cz z) (QZV P) := (RT_X5_args n).1 r_x1 r_x2 r_x3 hw H
theorem F_X5_atom_s (n : Nat) (t0 : Nat) (x1 : Int) (z : Z) (c : Nat) (s : Nat) (P : Z → Prop) : F_X5_atom (n + 1) t0 x1 z c s P = B_X5_atom (F_X5_args n) (F_X5_atom n) (F_X5_bracketed n) (F_X5_expression n) (F_X5_signed n) (F_X5_word n) t0 x1 z c s P := rfl
theorem T_X5_atom {n : Nat} {t0 : Nat} {x1 : Int} {z : Z} {c : Nat} {s : Nat} {P : Z → Prop} (r_x1 : R32 x1) (hw : Wz z) (H : F_X5_atom n t0 x1 z c s P) : Con mX5_atom (9 + n) c s [vr (some t0), ii (x1)] (cz z) (QZV P) := (RT_X5_args n).2.1 r_x1 hw H
theorem F_X5_bracketed_s (n : Nat) (t0 : Nat) (x1 : Int) (z : Z) (c : Nat) (s : Nat) (P : Z → Prop) : F_X5_bracketed (n + 1) t0 x1 z c s P = B_X5_bracketed (F_X5_args n) (F_X5_atom n) (F_X5_bracketed n) (F_X5_expression n) (F_X5_signed n) (F_X5_word n) t0 x1 z c s P := rfl
theorem T_X5_bracketed {n : Nat} {t0 : Nat} {x1 : Int} {z : Z} {c : Nat} {s : Nat} {P : Z → Prop} (r_x1 : R32 x1) (hw : Wz z) (H : F_X5_bracketed n t0 x1 z c s P) : Con mX5_bracketed (9 + n) c s [vr (some t0), ii (x1)] (cz z) (QZV P) := (RT_X5_args n).2.2.1 r_x1 hw H
theorem F_X5_expression_s (n : Nat) (t0 : Nat) (x1 : Int) (x2 : Int) (z : Z) (c : Nat) (s : Nat) (P : Z → Prop) : F_X5_expression (n + 1) t0 x1 x2 z c s P = B_X5_expression (F_X5_args n) (F_X5_atom n) (F_X5_bracketed n) (F_X5_expression n) (F_X5_signed n) (F_X5_word n) t0 x1 x2 z c s P := rfl
theorem T_X5_expression {n : Nat} {t0 : Nat} {x1 : Int} {x2 : Int} {z : Z} {c : Nat} {s : Nat} {P : Z → Prop} (r_x1 : R32 x1) (r_x2 : R32 x2) (hw : Wz z) (H : F_X5_expression n t0 x1 x2 z c s P) : Con mX5_expression (9 + n) c s [vr (some t0), ii (x1), ii (x2)] (cz z) (QZV P) := (RT_X5_args n).2.2.2.1 r_x1 r_x2 hw H
theorem F_X5_signed_s (n : Nat) (t0 : Nat) (x1 : Int) (z : Z) (c : Nat) (s : Nat) (P : Z → Prop) : F_X5_signed (n + 1) t0 x1 z c s P = B_X5_signed (F_X5_args n) (F_X5_atom n) (F_X5_bracketed n) (F_X5_expression n) (F_X5_signed n) (F_X5_word n) t0 x1 z c s P := rfl
theorem T_X5_signed {n : Nat} {t0 : Nat} {x1 : Int} {z : Z} {c : Nat} {s : Nat} {P : Z → Prop} (r_x1 : R32 x1) (hw : Wz z) (H : F_X5_signed n t0 x1 z c s P) : Con mX5_signed (9 + n) c s [vr (some t0), ii (x1)] (cz z) (QZV P) := (RT_X5_args n).2.2.2.2.1 r_x1 hw H
theorem F_X5_word_s (n : Nat) (t0 : Nat) (x1 : Int) (z : Z) (c : Nat) (s : Nat) (P : Z → Prop) : F_X5_word (n + 1) t0 x1 z c s P = B_X5_word (F_X5_args n) (F_X5_atom n) (F_X5_bracketed n) (F_X5_expression n) (F_X5_signed n) (F_X5_word n) t0 x1 z c s P := rfl
theorem T_X5_word {n : Nat} {t0 : Nat} {x1 : Int} {z : Z} {c : Nat} {s : Nat} {P : Z → Prop} (r_x1 : R32 x1) (hw : Wz z) (H : F_X5_word n t0 x1 z c s P) : Con mX5_word (9 + n) c s [vr (some t0), ii (x1)] (cz z) (QZV P) := (RT_X5_args n).2.2.2.2.2 r_x1 hw H
