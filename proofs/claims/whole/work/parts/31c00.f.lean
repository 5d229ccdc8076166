def F_J6_numberOfLeadingZeros_0f7a4_73  (x0 : Int) (x1 : Int) (P : Int → Prop) : Prop :=
  P (w32 (x1 - (bUshr x0 1)))
theorem T_J6_numberOfLeadingZeros_0f7a4_73  {x0 : Int} {x1 : Int} {P : Int → Prop} {h : Hp} (r_x0 : R32 x0) (r_x1 : R32 x1)    (H : F_J6_numberOfLeadingZeros_0f7a4_73 x0 x1 P) : J mJ6_numberOfLeadingZeros_0f7a4 1 0 0 (nx (QPI h P)) 73 [some (ii (x0)), some (ii (x1))] [] h := by
  unfold F_J6_numberOfLeadingZeros_0f7a4_73 at H
  refine j_iload_n (dk dt_J6_numberOfLeadingZeros_0f7a4 42 rfl) rfl ?_
  refine j_iload_n (dk dt_J6_numberOfLeadingZeros_0f7a4 43 rfl) rfl ?_
  refine j_iconst (v := Int32.ofInt 1) (dk dt_J6_numberOfLeadingZeros_0f7a4 44 rfl) (by decide) ?_
  refine jz_iushr (dk dt_J6_numberOfLeadingZeros_0f7a4 45 rfl) ?_
  refine jz_isub (dk dt_J6_numberOfLeadingZeros_0f7a4 46 rfl) ?_
  exact j_ireturn (dk dt_J6_numberOfLeadingZeros_0f7a4 47 rfl) rfl rfl ⟨_, rfl, (r32_w _), rfl, H⟩
def F_J6_numberOfLeadingZeros_0f7a4_61  (x0 : Int) (x1 : Int) (P : Int → Prop) : Prop :=
  (if x0 < 4 then F_J6_numberOfLeadingZeros_0f7a4_73 x0 x1 P else F_J6_numberOfLeadingZeros_0f7a4_73 (bUshr x0 2) (w32 (x1 + (-2))) P)
theorem T_J6_numberOfLeadingZeros_0f7a4_61  {x0 : Int} {x1 : Int} {P : Int → Prop} {h : Hp} (r_x0 : R32 x0) (r_x1 : R32 x1)    (H : F_J6_numberOfLeadingZeros_0f7a4_61 x0 x1 P) : J mJ6_numberOfLeadingZeros_0f7a4 1 0 0 (nx (QPI h P)) 61 [some (ii (x0)), some (ii (x1))] [] h := by
  unfold F_J6_numberOfLeadingZeros_0f7a4_61 at H
  refine j_iload_n (dk dt_J6_numberOfLeadingZeros_0f7a4 34 rfl) rfl ?_
  refine j_iconst (v := Int32.ofInt 4) (dk dt_J6_numberOfLeadingZeros_0f7a4 35 rfl) (by decide) ?_
  refine jz_icmp_lt 73 (dk dt_J6_numberOfLeadingZeros_0f7a4 36 rfl) (by decide) r_x0 (by decide) H (fun H => ?_) (fun H => ?_)
  · exact j_el (T_J6_numberOfLeadingZeros_0f7a4_73 r_x0 r_x1    H) (And.intro rfl (And.intro rfl trivial))
  · refine jz_iinc (dk dt_J6_numberOfLeadingZeros_0f7a4 37 rfl) rfl ?_
    refine j_iload_n (dk dt_J6_numberOfLeadingZeros_0f7a4 38 rfl) rfl ?_
    refine j_iconst (v := Int32.ofInt 2) (dk dt_J6_numberOfLeadingZeros_0f7a4 39 rfl) (by decide) ?_
    refine jz_iushr (dk dt_J6_numberOfLeadingZeros_0f7a4 40 rfl) ?_
    refine j_istore_n (dk dt_J6_numberOfLeadingZeros_0f7a4 41 rfl) (by decide) ?_
    exact j_el (T_J6_numberOfLeadingZeros_0f7a4_73 (r32_t _) (r32_w _)    H) (And.intro rfl (And.intro rfl trivial))
def F_J6_numberOfLeadingZeros_0f7a4_48  (x0 : Int) (x1 : Int) (P : Int → Prop) : Prop :=
  (if x0 < 16 then F_J6_numberOfLeadingZeros_0f7a4_61 x0 x1 P else F_J6_numberOfLeadingZeros_0f7a4_61 (bUshr x0 4) (w32 (x1 + (-4))) P)
theorem T_J6_numberOfLeadingZeros_0f7a4_48  {x0 : Int} {x1 : Int} {P : Int → Prop} {h : Hp} (r_x0 : R32 x0) (r_x1 : R32 x1)    (H : F_J6_numberOfLeadingZeros_0f7a4_48 x0 x1 P) : J mJ6_numberOfLeadingZeros_0f7a4 1 0 0 (nx (QPI h P)) 48 [some (ii (x0)), some (ii (x1))] [] h := by
  unfold F_J6_numberOfLeadingZeros_0f7a4_48 at H
  refine j_iload_n (dk dt_J6_numberOfLeadingZeros_0f7a4 26 rfl) rfl ?_
  refine j_bipush (v := Int32.ofInt 16) (dk dt_J6_numberOfLeadingZeros_0f7a4 27 rfl) (by decide) ?_
  refine jz_icmp_lt 61 (dk dt_J6_numberOfLeadingZeros_0f7a4 28 rfl) (by decide) r_x0 (by decide) H (fun H => ?_) (fun H => ?_)
  · exact j_el (T_J6_numberOfLeadingZeros_0f7a4_61 r_x0 r_x1    H) (And.intro rfl (And.intro rfl trivial))
  · refine jz_iinc (dk dt_J6_numberOfLeadingZeros_0f7a4 29 rfl) rfl ?_
    refine j_iload_n (dk dt_J6_numberOfLeadingZeros_0f7a4 30 rfl) rfl ?_
    refine j_iconst (v := Int32.ofInt 4) (dk dt_J6_numberOfLeadingZeros_0f7a4 31 rfl) (by decide) ?_
    refine jz_iushr (dk dt_J6_numberOfLeadingZeros_0f7a4 32 rfl) ?_
    refine j_istore_n (dk dt_J6_numberOfLeadingZeros_0f7a4 33 rfl) (by decide) ?_
    exact j_el (T_J6_numberOfLeadingZeros_0f7a4_61 (r32_t _) (r32_w _)    H) (And.intro rfl (And.intro rfl trivial))
def F_J6_numberOfLeadingZeros_0f7a4_33  (x0 : Int) (x1 : Int) (P : Int → Prop) : Prop :=
  (if x0 < 256 then F_J6_numberOfLeadingZeros_0f7a4_48 x0 x1 P else F_J6_numberOfLeadingZeros_0f7a4_48 (bUshr x0 8) (w32 (x1 + (-8))) P)
theorem T_J6_numberOfLeadingZeros_0f7a4_33  {x0 : Int} {x1 : Int} {P : Int → Prop} {h : Hp} (r_x0 : R32 x0) (r_x1 : R32 x1)    (H : F_J6_numberOfLeadingZeros_0f7a4_33 x0 x1 P) : J mJ6_numberOfLeadingZeros_0f7a4 1 0 0 (nx (QPI h P)) 33 [some (ii (x0)), some (ii (x1))] [] h := by
  unfold F_J6_numberOfLeadingZeros_0f7a4_33 at H
  refine j_iload_n (dk dt_J6_numberOfLeadingZeros_0f7a4 18 rfl) rfl ?_
  refine j_sipush (v := Int32.ofInt 256) (dk dt_J6_numberOfLeadingZeros_0f7a4 19 rfl) (by decide) ?_
  refine jz_icmp_lt 48 (dk dt_J6_numberOfLeadingZeros_0f7a4 20 rfl) (by decide) r_x0 (by decide) H (fun H => ?_) (fun H => ?_)
  · exact j_el (T_J6_numberOfLeadingZeros_0f7a4_48 r_x0 r_x1    H) (And.intro rfl (And.intro rfl trivial))
  · refine jz_iinc (dk dt_J6_numberOfLeadingZeros_0f7a4 21 rfl) rfl ?_
    refine j_iload_n (dk dt_J6_numberOfLeadingZeros_0f7a4 22 rfl) rfl ?_
    refine j_bipush (v := Int32.ofInt 8) (dk dt_J6_numberOfLeadingZeros_0f7a4 23 rfl) (by decide) ?_
    refine jz_iushr (dk dt_J6_numberOfLeadingZeros_0f7a4 24 rfl) ?_
    refine j_istore_n (dk dt_J6_numberOfLeadingZeros_0f7a4 25 rfl) (by decide) ?_
    exact j_el (T_J6_numberOfLeadingZeros_0f7a4_48 (r32_t _) (r32_w _)    H) (And.intro rfl (And.intro rfl trivial))
def F_J6_numberOfLeadingZeros_0f7a4_14  (s0 : Int) (P : Int → Prop) : Prop :=
  P s0
theorem T_J6_numberOfLeadingZeros_0f7a4_14  {s0 : Int} {P : Int → Prop} {h : Hp} (r_s0 : R32 s0)    (H : F_J6_numberOfLeadingZeros_0f7a4_14 s0 P) : J mJ6_numberOfLeadingZeros_0f7a4 1 0 0 (nx (QPI h P)) 14 [none, none] [ii (s0)] h := by
  unfold F_J6_numberOfLeadingZeros_0f7a4_14 at H
  exact j_ireturn (dk dt_J6_numberOfLeadingZeros_0f7a4 7 rfl) rfl rfl ⟨_, rfl, r_s0, rfl, H⟩
def F_J6_numberOfLeadingZeros_0f7a4  (x0 : Int) (P : Int → Prop) : Prop :=
  (if 0 < x0 then (if x0 < 65536 then F_J6_numberOfLeadingZeros_0f7a4_33 x0 31 P else F_J6_numberOfLeadingZeros_0f7a4_33 (bUshr x0 16) (w32 (31 + (-16))) P) else (if x0 = 0 then F_J6_numberOfLeadingZeros_0f7a4_14 32 P else F_J6_numberOfLeadingZeros_0f7a4_14 0 P))
theorem T_J6_numberOfLeadingZeros_0f7a4  {x0 : Int} {P : Int → Prop} {h : Hp} (r_x0 : R32 x0)   (H : F_J6_numberOfLeadingZeros_0f7a4 x0 P) : Con mJ6_numberOfLeadingZeros_0f7a4 1 0 0 [ii (x0)] h (QPI h P) := by
  refine con_of rfl (Nat.le_of_ble_eq_true rfl) (by decide) ?_
  show J mJ6_numberOfLeadingZeros_0f7a4 1 0 0 _ 0 [some (ii (x0)), none] [] h
  unfold F_J6_numberOfLeadingZeros_0f7a4 at H
  refine j_iload_n (dk dt_J6_numberOfLeadingZeros_0f7a4 0 rfl) rfl ?_
  refine jz_if_gt 15 (dk dt_J6_numberOfLeadingZeros_0f7a4 1 rfl) (by decide) r_x0 H (fun H => ?_) (fun H => ?_)
  · refine j_bipush (v := Int32.ofInt 31) (dk dt_J6_numberOfLeadingZeros_0f7a4 8 rfl) (by decide) ?_
    refine j_istore_n (dk dt_J6_numberOfLeadingZeros_0f7a4 9 rfl) (by decide) ?_
    refine j_iload_n (dk dt_J6_numberOfLeadingZeros_0f7a4 10 rfl) rfl ?_
    refine j_ldcw (v := Int32.ofInt (65536)) (dk dt_J6_numberOfLeadingZeros_0f7a4 11 rfl) (by exact kl_J6_264) ?_
    refine jz_icmp_lt 33 (dk dt_J6_numberOfLeadingZeros_0f7a4 12 rfl) (by decide) r_x0 (by decide) H (fun H => ?_) (fun H => ?_)
    · exact j_el (T_J6_numberOfLeadingZeros_0f7a4_33 r_x0 (by decide)    H) (And.intro rfl (And.intro rfl trivial))
    · refine jz_iinc (dk dt_J6_numberOfLeadingZeros_0f7a4 13 rfl) rfl ?_
      refine j_iload_n (dk dt_J6_numberOfLeadingZeros_0f7a4 14 rfl) rfl ?_
      refine j_bipush (v := Int32.ofInt 16) (dk dt_J6_numberOfLeadingZeros_0f7a4 15 rfl) (by decide) ?_
      refine jz_iushr (dk dt_J6_numberOfLeadingZeros_0f7a4 16 rfl) ?_
      refine j_istore_n (dk dt_J6_numberOfLeadingZeros_0f7a4 17 rfl) (by decide) ?_
      exact j_el (T_J6_numberOfLeadingZeros_0f7a4_33 (r32_t _) (r32_w _)    H) (And.intro rfl (And.intro rfl trivial))
  · refine j_iload_n (dk dt_J6_numberOfLeadingZeros_0f7a4 2 rfl) rfl ?_
    refine jz_if_ne 13 (dk dt_J6_numberOfLeadingZeros_0f7a4 3 rfl) (by decide) r_x0 H (fun H => ?_) (fun H => ?_)
    · refine j_bipush (v := Int32.ofInt 32) (dk dt_J6_numberOfLeadingZeros_0f7a4 4 rfl) (by decide) ?_
      refine j_goto 14 (dk dt_J6_numberOfLeadingZeros_0f7a4 5 rfl) (by decide) ?_
      exact j_el (T_J6_numberOfLeadingZeros_0f7a4_14 (by decide)    H) trivial
    · refine j_iconst (v := Int32.ofInt 0) (dk dt_J6_numberOfLeadingZeros_0f7a4 6 rfl) (by decide) ?_
      exact j_el (T_J6_numberOfLeadingZeros_0f7a4_14 (by decide)    H) trivial
def F_J13_numberOfLeadingZeros_95d88_25  (s0 : Int) (P : Int → Prop) : Prop :=
  P s0
theorem T_J13_numberOfLeadingZeros_95d88_25  {s0 : Int} {P : Int → Prop} {h : Hp} (r_s0 : R32 s0)    (H : F_J13_numberOfLeadingZeros_95d88_25 s0 P) : J mJ13_numberOfLeadingZeros_95d88 4 0 0 (nx (QPI h P)) 25 [none, none, none] [ii (s0)] h := by
  unfold F_J13_numberOfLeadingZeros_95d88_25 at H
  exact j_ireturn (dk dt_J13_numberOfLeadingZeros_95d88 15 rfl) rfl rfl ⟨_, rfl, r_s0, rfl, H⟩
def F_J13_numberOfLeadingZeros_95d88  (x0 : Int) (P : Int → Prop) : Prop :=
  (if w32 (lUshr x0 32) = 0 then F_J6_numberOfLeadingZeros_0f7a4 (w32 x0) (fun x_14 => F_J13_numberOfLeadingZeros_95d88_25 (w32 (32 + x_14)) P) else F_J6_numberOfLeadingZeros_0f7a4 (w32 (lUshr x0 32)) (fun x_22 => F_J13_numberOfLeadingZeros_95d88_25 x_22 P))
theorem T_J13_numberOfLeadingZeros_95d88  {x0 : Int} {P : Int → Prop} {h : Hp} (r_x0 : R64 x0)   (H : F_J13_numberOfLeadingZeros_95d88 x0 P) : Con mJ13_numberOfLeadingZeros_95d88 4 0 0 [ll (x0)] h (QPI h P) := by
  refine con_of rfl (Nat.le_of_ble_eq_true rfl) (by decide) ?_
  show J mJ13_numberOfLeadingZeros_95d88 4 0 0 _ 0 [some (ll (x0)), none, none] [] h
  unfold F_J13_numberOfLeadingZeros_95d88 at H
  refine j_lload_n (dk dt_J13_numberOfLeadingZeros_95d88 0 rfl) rfl ?_
  refine j_bipush (v := Int32.ofInt 32) (dk dt_J13_numberOfLeadingZeros_95d88 1 rfl) (by decide) ?_
  refine jz_lushr (dk dt_J13_numberOfLeadingZeros_95d88 2 rfl) ?_
  refine jz_l2i (dk dt_J13_numberOfLeadingZeros_95d88 3 rfl) ?_
  refine j_istore_n (dk dt_J13_numberOfLeadingZeros_95d88 4 rfl) (by decide) ?_
  refine j_iload_n (dk dt_J13_numberOfLeadingZeros_95d88 5 rfl) rfl ?_
  refine jz_if_ne 21 (dk dt_J13_numberOfLeadingZeros_95d88 6 rfl) (by decide) (r32_w _) H (fun H => ?_) (fun H => ?_)
  · refine j_bipush (v := Int32.ofInt 32) (dk dt_J13_numberOfLeadingZeros_95d88 7 rfl) (by decide) ?_
    refine j_lload_n (dk dt_J13_numberOfLeadingZeros_95d88 8 rfl) rfl ?_
    refine jz_l2i (dk dt_J13_numberOfLeadingZeros_95d88 9 rfl) ?_
    refine j_callS1 (dk dt_J13_numberOfLeadingZeros_95d88 10 rfl) sl_J13_308 (T_J6_numberOfLeadingZeros_0f7a4 (r32_w _) H) rfl (by decide) (Nat.zero_le _) (Nat.zero_le _) (Nat.le_of_ble_eq_true rfl) (fun v_14 h_14 P_14 => ?_)
    obtain ⟨x_14, rfl, r_14, rfl, H⟩ := P_14
    dsimp only [rs]
    refine jz_iadd (dk dt_J13_numberOfLeadingZeros_95d88 11 rfl) ?_
    refine j_goto 25 (dk dt_J13_numberOfLeadingZeros_95d88 12 rfl) (by decide) ?_
    exact j_el (T_J13_numberOfLeadingZeros_95d88_25 (r32_w _)    H) trivial
  · refine j_iload_n (dk dt_J13_numberOfLeadingZeros_95d88 13 rfl) rfl ?_
    refine j_callS1 (dk dt_J13_numberOfLeadingZeros_95d88 14 rfl) sl_J13_308 (T_J6_numberOfLeadingZeros_0f7a4 (r32_w _) H) rfl (by decide) (Nat.zero_le _) (Nat.zero_le _) (Nat.le_of_ble_eq_true rfl) (fun v_22 h_22 P_22 => ?_)
    obtain ⟨x_22, rfl, r_22, rfl, H⟩ := P_22
    dsimp only [rs]
    exact j_el (T_J13_numberOfLeadingZeros_95d88_25 r_22    H) trivial
def F_J6_numberOfTrailingZeros_0f7a4_74  (x0 : Int) (x1 : Int) (P : Int → Prop) : Prop :=
  P (w32 (x1 + (bUshr x0 1)))
theorem T_J6_numberOfTrailingZeros_0f7a4_74  {x0 : Int} {x1 : Int} {P : Int → Prop} {h : Hp} (r_x0 : R32 x0) (r_x1 : R32 x1)    (H : F_J6_numberOfTrailingZeros_0f7a4_74 x0 x1 P) : J mJ6_numberOfTrailingZeros_0f7a4 1 0 0 (nx (QPI h P)) 74 [some (ii (x0)), some (ii (x1))] [] h := by
  unfold F_J6_numberOfTrailingZeros_0f7a4_74 at H
  refine j_iload_n (dk dt_J6_numberOfTrailingZeros_0f7a4 48 rfl) rfl ?_
  refine j_iload_n (dk dt_J6_numberOfTrailingZeros_0f7a4 49 rfl) rfl ?_
  refine j_iconst (v := Int32.ofInt 1) (dk dt_J6_numberOfTrailingZeros_0f7a4 50 rfl) (by decide) ?_
  refine jz_iushr (dk dt_J6_numberOfTrailingZeros_0f7a4 51 rfl) ?_
  refine jz_iadd (dk dt_J6_numberOfTrailingZeros_0f7a4 52 rfl) ?_
  exact j_ireturn (dk dt_J6_numberOfTrailingZeros_0f7a4 53 rfl) rfl rfl ⟨_, rfl, (r32_w _), rfl, H⟩
def F_J6_numberOfTrailingZeros_0f7a4_62  (x0 : Int) (x1 : Int) (P : Int → Prop) : Prop :=
  (if x0 ≤ 4 then F_J6_numberOfTrailingZeros_0f7a4_74 x0 x1 P else F_J6_numberOfTrailingZeros_0f7a4_74 (bUshr x0 2) (w32 (x1 + 2)) P)
theorem T_J6_numberOfTrailingZeros_0f7a4_62  {x0 : Int} {x1 : Int} {P : Int → Prop} {h : Hp} (r_x0 : R32 x0) (r_x1 : R32 x1)    (H : F_J6_numberOfTrailingZeros_0f7a4_62 x0 x1 P) : J mJ6_numberOfTrailingZeros_0f7a4 1 0 0 (nx (QPI h P)) 62 [some (ii (x0)), some (ii (x1))] [] h := by
  unfold F_J6_numberOfTrailingZeros_0f7a4_62 at H
  refine j_iload_n (dk dt_J6_numberOfTrailingZeros_0f7a4 40 rfl) rfl ?_
  refine j_iconst (v := Int32.ofInt 4) (dk dt_J6_numberOfTrailingZeros_0f7a4 41 rfl) (by decide) ?_
  refine jz_icmp_le 74 (dk dt_J6_numberOfTrailingZeros_0f7a4 42 rfl) (by decide) r_x0 (by decide) H (fun H => ?_) (fun H => ?_)
  · exact j_el (T_J6_numberOfTrailingZeros_0f7a4_74 r_x0 r_x1    H) (And.intro rfl (And.intro rfl trivial))
  · refine jz_iinc (dk dt_J6_numberOfTrailingZeros_0f7a4 43 rfl) rfl ?_
    refine j_iload_n (dk dt_J6_numberOfTrailingZeros_0f7a4 44 rfl) rfl ?_
    refine j_iconst (v := Int32.ofInt 2) (dk dt_J6_numberOfTrailingZeros_0f7a4 45 rfl) (by decide) ?_
    refine jz_iushr (dk dt_J6_numberOfTrailingZeros_0f7a4 46 rfl) ?_
    refine j_istore_n (dk dt_J6_numberOfTrailingZeros_0f7a4 47 rfl) (by decide) ?_
    exact j_el (T_J6_numberOfTrailingZeros_0f7a4_74 (r32_t _) (r32_w _)    H) (And.intro rfl (And.intro rfl trivial))
def F_J6_numberOfTrailingZeros_0f7a4_49  (x0 : Int) (x1 : Int) (P : Int → Prop) : Prop :=
  (if x0 ≤ 16 then F_J6_numberOfTrailingZeros_0f7a4_62 x0 x1 P else F_J6_numberOfTrailingZeros_0f7a4_62 (bUshr x0 4) (w32 (x1 + 4)) P)
theorem T_J6_numberOfTrailingZeros_0f7a4_49  {x0 : Int} {x1 : Int} {P : Int → Prop} {h : Hp} (r_x0 : R32 x0) (r_x1 : R32 x1)    (H : F_J6_numberOfTrailingZeros_0f7a4_49 x0 x1 P) : J mJ6_numberOfTrailingZeros_0f7a4 1 0 0 (nx (QPI h P)) 49 [some (ii (x0)), some (ii (x1))] [] h := by
  unfold F_J6_numberOfTrailingZeros_0f7a4_49 at H
  refine j_iload_n (dk dt_J6_numberOfTrailingZeros_0f7a4 32 rfl) rfl ?_
  refine j_bipush (v := Int32.ofInt 16) (dk dt_J6_numberOfTrailingZeros_0f7a4 33 rfl) (by decide) ?_
  refine jz_icmp_le 62 (dk dt_J6_numberOfTrailingZeros_0f7a4 34 rfl) (by decide) r_x0 (by decide) H (fun H => ?_) (fun H => ?_)
  · exact j_el (T_J6_numberOfTrailingZeros_0f7a4_62 r_x0 r_x1    H) (And.intro rfl (And.intro rfl trivial))
  · refine jz_iinc (dk dt_J6_numberOfTrailingZeros_0f7a4 35 rfl) rfl ?_
    refine j_iload_n (dk dt_J6_numberOfTrailingZeros_0f7a4 36 rfl) rfl ?_
    refine j_iconst (v := Int32.ofInt 4) (dk dt_J6_numberOfTrailingZeros_0f7a4 37 rfl) (by decide) ?_
    refine jz_iushr (dk dt_J6_numberOfTrailingZeros_0f7a4 38 rfl) ?_
    refine j_istore_n (dk dt_J6_numberOfTrailingZeros_0f7a4 39 rfl) (by decide) ?_
    exact j_el (T_J6_numberOfTrailingZeros_0f7a4_62 (r32_t _) (r32_w _)    H) (And.intro rfl (And.intro rfl trivial))
def F_J6_numberOfTrailingZeros_0f7a4_34  (x0 : Int) (x1 : Int) (P : Int → Prop) : Prop :=
  (if x0 ≤ 256 then F_J6_numberOfTrailingZeros_0f7a4_49 x0 x1 P else F_J6_numberOfTrailingZeros_0f7a4_49 (bUshr x0 8) (w32 (x1 + 8)) P)
theorem T_J6_numberOfTrailingZeros_0f7a4_34  {x0 : Int} {x1 : Int} {P : Int → Prop} {h : Hp} (r_x0 : R32 x0) (r_x1 : R32 x1)    (H : F_J6_numberOfTrailingZeros_0f7a4_34 x0 x1 P) : J mJ6_numberOfTrailingZeros_0f7a4 1 0 0 (nx (QPI h P)) 34 [some (ii (x0)), some (ii (x1))] [] h := by
  unfold F_J6_numberOfTrailingZeros_0f7a4_34 at H
  refine j_iload_n (dk dt_J6_numberOfTrailingZeros_0f7a4 24 rfl) rfl ?_
  refine j_sipush (v := Int32.ofInt 256) (dk dt_J6_numberOfTrailingZeros_0f7a4 25 rfl) (by decide) ?_
  refine jz_icmp_le 49 (dk dt_J6_numberOfTrailingZeros_0f7a4 26 rfl) (by decide) r_x0 (by decide) H (fun H => ?_) (fun H => ?_)
  · exact j_el (T_J6_numberOfTrailingZeros_0f7a4_49 r_x0 r_x1    H) (And.intro rfl (And.intro rfl trivial))
  · refine jz_iinc (dk dt_J6_numberOfTrailingZeros_0f7a4 27 rfl) rfl ?_
    refine j_iload_n (dk dt_J6_numberOfTrailingZeros_0f7a4 28 rfl) rfl ?_
    refine j_bipush (v := Int32.ofInt 8) (dk dt_J6_numberOfTrailingZeros_0f7a4 29 rfl) (by decide) ?_
    refine jz_iushr (dk dt_J6_numberOfTrailingZeros_0f7a4 30 rfl) ?_
    refine j_istore_n (dk dt_J6_numberOfTrailingZeros_0f7a4 31 rfl) (by decide) ?_
    exact j_el (T_J6_numberOfTrailingZeros_0f7a4_49 (r32_t _) (r32_w _)    H) (And.intro rfl (And.intro rfl trivial))
def F_J6_numberOfTrailingZeros_0f7a4  (x0 : Int) (P : Int → Prop) : Prop :=
  (if 0 < bAnd (bXor x0 (-1)) (w32 (x0 - 1)) then (if bAnd (bXor x0 (-1)) (w32 (x0 - 1)) ≤ 65536 then F_J6_numberOfTrailingZeros_0f7a4_34 (bAnd (bXor x0 (-1)) (w32 (x0 - 1))) 1 P else F_J6_numberOfTrailingZeros_0f7a4_34 (bUshr (bAnd (bXor x0 (-1)) (w32 (x0 - 1))) 16) (w32 (1 + 16)) P) else P (bAnd (bAnd (bXor x0 (-1)) (w32 (x0 - 1))) 32))
theorem T_J6_numberOfTrailingZeros_0f7a4  {x0 : Int} {P : Int → Prop} {h : Hp} (r_x0 : R32 x0)   (H : F_J6_numberOfTrailingZeros_0f7a4 x0 P) : Con mJ6_numberOfTrailingZeros_0f7a4 1 0 0 [ii (x0)] h (QPI h P) := by
  refine con_of rfl (Nat.le_of_ble_eq_true rfl) (by decide) ?_
  show J mJ6_numberOfTrailingZeros_0f7a4 1 0 0 _ 0 [some (ii (x0)), none] [] h
  unfold F_J6_numberOfTrailingZeros_0f7a4 at H
  refine j_iload_n (dk dt_J6_numberOfTrailingZeros_0f7a4 0 rfl) rfl ?_
  refine j_iconst (v := Int32.ofInt (-1)) (dk dt_J6_numberOfTrailingZeros_0f7a4 1 rfl) (by decide) ?_
  refine jz_ixor (dk dt_J6_numberOfTrailingZeros_0f7a4 2 rfl) ?_
  refine j_iload_n (dk dt_J6_numberOfTrailingZeros_0f7a4 3 rfl) rfl ?_
  refine j_iconst (v := Int32.ofInt 1) (dk dt_J6_numberOfTrailingZeros_0f7a4 4 rfl) (by decide) ?_
  refine jz_isub (dk dt_J6_numberOfTrailingZeros_0f7a4 5 rfl) ?_
  refine jz_iand (dk dt_J6_numberOfTrailingZeros_0f7a4 6 rfl) ?_
  refine j_istore_n (dk dt_J6_numberOfTrailingZeros_0f7a4 7 rfl) (by decide) ?_
  refine j_iload_n (dk dt_J6_numberOfTrailingZeros_0f7a4 8 rfl) rfl ?_
  refine jz_if_gt 17 (dk dt_J6_numberOfTrailingZeros_0f7a4 9 rfl) (by decide) (r32_t _) H (fun H => ?_) (fun H => ?_)
  · refine j_iconst (v := Int32.ofInt 1) (dk dt_J6_numberOfTrailingZeros_0f7a4 14 rfl) (by decide) ?_
    refine j_istore_n (dk dt_J6_numberOfTrailingZeros_0f7a4 15 rfl) (by decide) ?_
    refine j_iload_n (dk dt_J6_numberOfTrailingZeros_0f7a4 16 rfl) rfl ?_
    refine j_ldcw (v := Int32.ofInt (65536)) (dk dt_J6_numberOfTrailingZeros_0f7a4 17 rfl) (by exact kl_J6_264) ?_
    refine jz_icmp_le 34 (dk dt_J6_numberOfTrailingZeros_0f7a4 18 rfl) (by decide) (r32_t _) (by decide) H (fun H => ?_) (fun H => ?_)
    · exact j_el (T_J6_numberOfTrailingZeros_0f7a4_34 (r32_t _) (by decide)    H) (And.intro rfl (And.intro rfl trivial))
    · refine jz_iinc (dk dt_J6_numberOfTrailingZeros_0f7a4 19 rfl) rfl ?_
      refine j_iload_n (dk dt_J6_numberOfTrailingZeros_0f7a4 20 rfl) rfl ?_
      refine j_bipush (v := Int32.ofInt 16) (dk dt_J6_numberOfTrailingZeros_0f7a4 21 rfl) (by decide) ?_
      refine jz_iushr (dk dt_J6_numberOfTrailingZeros_0f7a4 22 rfl) ?_
      refine j_istore_n (dk dt_J6_numberOfTrailingZeros_0f7a4 23 rfl) (by decide) ?_
      exact j_el (T_J6_numberOfTrailingZeros_0f7a4_34 (r32_t _) (r32_w _)    H) (And.intro rfl (And.intro rfl trivial))
  · refine j_iload_n (dk dt_J6_numberOfTrailingZeros_0f7a4 10 rfl) rfl ?_
    refine j_bipush (v := Int32.ofInt 32) (dk dt_J6_numberOfTrailingZeros_0f7a4 11 rfl) (by decide) ?_
    refine jz_iand (dk dt_J6_numberOfTrailingZeros_0f7a4 12 rfl) ?_
    exact j_ireturn (dk dt_J6_numberOfTrailingZeros_0f7a4 13 rfl) rfl rfl ⟨_, rfl, (r32_t _), rfl, H⟩
def F_J13_numberOfTrailingZeros_95d88_25  (s0 : Int) (P : Int → Prop) : Prop :=
  P s0
theorem T_J13_numberOfTrailingZeros_95d88_25  {s0 : Int} {P : Int → Prop} {h : Hp} (r_s0 : R32 s0)    (H : F_J13_numberOfTrailingZeros_95d88_25 s0 P) : J mJ13_numberOfTrailingZeros_95d88 4 0 0 (nx (QPI h P)) 25 [none, none, none] [ii (s0)] h := by
  unfold F_J13_numberOfTrailingZeros_95d88_25 at H
  exact j_ireturn (dk dt_J13_numberOfTrailingZeros_95d88 15 rfl) rfl rfl ⟨_, rfl, r_s0, rfl, H⟩
def F_J13_numberOfTrailingZeros_95d88  (x0 : Int) (P : Int → Prop) : Prop :=
  (if w32 x0 = 0 then F_J6_numberOfTrailingZeros_0f7a4 (w32 (lUshr x0 32)) (fun x_14 => F_J13_numberOfTrailingZeros_95d88_25 (w32 (32 + x_14)) P) else F_J6_numberOfTrailingZeros_0f7a4 (w32 x0) (fun x_22 => F_J13_numberOfTrailingZeros_95d88_25 x_22 P))
theorem T_J13_numberOfTrailingZeros_95d88  {x0 : Int} {P : Int → Prop} {h : Hp} (r_x0 : R64 x0)   (H : F_J13_numberOfTrailingZeros_95d88 x0 P) : Con mJ13_numberOfTrailingZeros_95d88 4 0 0 [ll (x0)] h (QPI h P) := by
  refine con_of rfl (Nat.le_of_ble_eq_true rfl) (by decide) ?_
  show J mJ13_numberOfTrailingZeros_95d88 4 0 0 _ 0 [some (ll (x0)), none, none] [] h
  unfold F_J13_numberOfTrailingZeros_95d88 at H
  refine j_lload_n (dk dt_J13_numberOfTrailingZeros_95d88 0 rfl) rfl ?_
  refine jz_l2i (dk dt_J13_numberOfTrailingZeros_95d88 1 rfl) ?_
  refine j_istore_n (dk dt_J13_numberOfTrailingZeros_95d88 2 rfl) (by decide) ?_
  refine j_iload_n (dk dt_J13_numberOfTrailingZeros_95d88 3 rfl) rfl ?_
  refine jz_if_ne 21 (dk dt_J13_numberOfTrailingZeros_95d88 4 rfl) (by decide) (r32_w _) H (fun H => ?_) (fun H => ?_)
  · refine j_bipush (v := Int32.ofInt 32) (dk dt_J13_numberOfTrailingZeros_95d88 5 rfl) (by decide) ?_
    refine j_lload_n (dk dt_J13_numberOfTrailingZeros_95d88 6 rfl) rfl ?_
    refine j_bipush (v := Int32.ofInt 32) (dk dt_J13_numberOfTrailingZeros_95d88 7 rfl) (by decide) ?_
    refine jz_lushr (dk dt_J13_numberOfTrailingZeros_95d88 8 rfl) ?_
    refine jz_l2i (dk dt_J13_numberOfTrailingZeros_95d88 9 rfl) ?_
    refine j_callS1 (dk dt_J13_numberOfTrailingZeros_95d88 10 rfl) sl_J13_311 (T_J6_numberOfTrailingZeros_0f7a4 (r32_w _) H) rfl (by decide) (Nat.zero_le _) (Nat.zero_le _) (Nat.le_of_ble_eq_true rfl) (fun v_14 h_14 P_14 => ?_)
    obtain ⟨x_14, rfl, r_14, rfl, H⟩ := P_14
    dsimp only [rs]
    refine jz_iadd (dk dt_J13_numberOfTrailingZeros_95d88 11 rfl) ?_
    refine j_goto 25 (dk dt_J13_numberOfTrailingZeros_95d88 12 rfl) (by decide) ?_
    exact j_el (T_J13_numberOfTrailingZeros_95d88_25 (r32_w _)    H) trivial
  · refine j_iload_n (dk dt_J13_numberOfTrailingZeros_95d88 13 rfl) rfl ?_
    refine j_callS1 (dk dt_J13_numberOfTrailingZeros_95d88 14 rfl) sl_J13_311 (T_J6_numberOfTrailingZeros_0f7a4 (r32_w _) H) rfl (by decide) (Nat.zero_le _) (Nat.zero_le _) (Nat.le_of_ble_eq_true rfl) (fun v_22 h_22 P_22 => ?_)
    obtain ⟨x_22, rfl, r_22, rfl, H⟩ := P_22
    dsimp only [rs]
    exact j_el (T_J13_numberOfTrailingZeros_95d88_25 r_22    H) trivial
def F_J7_copyOf_59c91  (x0 : Option Nat) (x1 : Int) (z : Z) (c : Nat) (s : Nat) (P : Option Nat → Z → Prop) : Prop :=
  (∃ a_2, x0 = some a_2 ∧ zK z a_2 = 15 ∧ (if x1 = zN z a_2 then (1 ≤ c ∧ Int.toNat (zN z a_2) ≤ s ∧ ∀ b_7, zK z b_7 = 0 → (∀ z_7, z_7 = clZ z b_7 a_2 → P (some b_7) z_7)) else (0 ≤ x1 ∧ x1 < (33554432 : Int) ∧ 1 ≤ c ∧ Int.toNat x1 ≤ s ∧ ∀ a_15, zK z a_15 = 0 → (∀ z_15, z_15 = nZ z a_15 15 x1 → (∃ a_23, x0 = some a_23 ∧ zK z_15 a_23 = 15 ∧ ((0 : Int) ≤ 0 ∧ (0 : Int) ≤ 0 ∧ 0 ≤ min (zN z_15 a_23) x1 ∧ 0 + (min (zN z_15 a_23) x1) ≤ zN z_15 a_23 ∧ 0 + (min (zN z_15 a_23) x1) ≤ zN z_15 a_15 ∧ (∀ z_28, z_28 = cpI2 z_15 a_23 0 a_15 0 (min (zN z_15 a_23) x1) → P (some a_15) z_28)))))))
theorem T_J7_copyOf_59c91  {x0 : Option Nat} {x1 : Int} {z : Z} {c : Nat} {s : Nat} {P : Option Nat → Z → Prop} (r_x1 : R32 x1) (hw : Wz z)  (H : F_J7_copyOf_59c91 x0 x1 z c s P) : Con mJ7_copyOf_59c91 4 c s [vr (x0), ii (x1)] (cz z) (QZA P) := by
  refine con_of rfl (Nat.le_of_ble_eq_true rfl) (by decide) ?_
  show J mJ7_copyOf_59c91 4 c s _ 0 [some (vr (x0)), some (ii (x1)), none] [] (cz z)
  unfold F_J7_copyOf_59c91 at H
  refine j_iload_n (dk dt_J7_copyOf_59c91 0 rfl) rfl ?_
  refine j_aload_n (dk dt_J7_copyOf_59c91 1 rfl) rfl ?_
  obtain ⟨a_2, e_2, k_2, H⟩ := H
  refine jz_alen (t := 1) (dk dt_J7_copyOf_59c91 2 rfl) e_2 k_2 (by decide) hw ?_
  refine jz_icmp_ne 14 (dk dt_J7_copyOf_59c91 3 rfl) (by decide) r_x1 (r32_len hw _) H (fun H => ?_) (fun H => ?_)
  · refine j_aload_n (dk dt_J7_copyOf_59c91 4 rfl) rfl ?_
    obtain ⟨hc_7, hs_7, H⟩ := H
    refine jz_clone (dk dt_J7_copyOf_59c91 5 rfl) cn_J7_316 e_2 k_2 hc_7 hs_7 (by decide) (Nat.le_of_ble_eq_true rfl) hw (fun b_7 e_7 w_7 => ?_)
    replace H := H b_7 e_7
    replace H := H _ rfl
    refine jz_castI (dk dt_J7_copyOf_59c91 6 rfl) cc_J7_317 rfl (zK_cl) ?_
    exact j_areturn (dk dt_J7_copyOf_59c91 7 rfl) rfl rfl ⟨_, _, rfl, rfl, w_7, H⟩
  · refine j_iload_n (dk dt_J7_copyOf_59c91 8 rfl) rfl ?_
    obtain ⟨p_15, q_15, hc_15, hs_15, H⟩ := H
    refine jz_newI (dk dt_J7_copyOf_59c91 9 rfl) p_15 q_15 hc_15 hs_15 hw (fun a_15 e_15 w_15 => ?_)
    replace H := H a_15 e_15
    replace H := H _ rfl
    refine j_astore_n (dk dt_J7_copyOf_59c91 10 rfl) (by decide) ?_
    refine j_aload_n (dk dt_J7_copyOf_59c91 11 rfl) rfl ?_
    refine j_iconst (v := Int32.ofInt 0) (dk dt_J7_copyOf_59c91 12 rfl) (by decide) ?_
    refine j_aload_n (dk dt_J7_copyOf_59c91 13 rfl) rfl ?_
    refine j_iconst (v := Int32.ofInt 0) (dk dt_J7_copyOf_59c91 14 rfl) (by decide) ?_
    refine j_aload_n (dk dt_J7_copyOf_59c91 15 rfl) rfl ?_
    obtain ⟨a_23, e_23, k_23, H⟩ := H
    refine jz_alen (t := 1) (dk dt_J7_copyOf_59c91 16 rfl) e_23 k_23 (by decide) w_15 ?_
    refine j_iload_n (dk dt_J7_copyOf_59c91 17 rfl) rfl ?_
    refine jz_mmin (dk dt_J7_copyOf_59c91 18 rfl) sl_J7_304 (by decide) (Nat.le_of_ble_eq_true rfl) (r32_len w_15 _) r_x1 ?_
    obtain ⟨p1_28, p2_28, p3_28, p4_28, p5_28, H⟩ := H
    refine jz_copyI (dk dt_J7_copyOf_59c91 19 rfl) ac_J7_150 e_23 k_23 rfl (zK_new) p1_28 p2_28 p3_28 p4_28 p5_28 (by decide) (Nat.le_of_ble_eq_true rfl) w_15 (fun w_28 => ?_)
    replace H := H _ rfl
    refine j_aload_n (dk dt_J7_copyOf_59c91 20 rfl) rfl ?_
    exact j_areturn (dk dt_J7_copyOf_59c91 21 rfl) rfl rfl ⟨_, _, rfl, rfl, w_28, H⟩
def F_X0_init  (t0 : Nat) (x1 : Int) (x2 : Int) (x3 : Int) (x4 : Int) (x5 : Option Nat) (x6 : Option Nat) (z : Z) (P : Z → Prop) : Prop :=
  (zK z t0 = 1 ∧ (∀ z_6, z_6 = wI z t0 0 x1 → (∀ z_11, z_11 = wI z_6 t0 1 x2 → (∀ z_16, z_16 = wI z_11 t0 2 x3 → (Z1 x4 ∧ (∀ z_22, z_22 = wI z_16 t0 3 x4 → (∀ z_28, z_28 = wO z_22 t0 4 x5 → (∀ z_34, z_34 = wO z_28 t0 5 x6 → P z_34))))))))
theorem T_X0_init  {t0 : Nat} {x1 : Int} {x2 : Int} {x3 : Int} {x4 : Int} {x5 : Option Nat} {x6 : Option Nat} {z : Z} {P : Z → Prop} (r_x1 : R32 x1) (r_x2 : R32 x2) (r_x3 : R32 x3) (r_x4 : R32 x4) (hw : Wz z)  (H : F_X0_init t0 x1 x2 x3 x4 x5 x6 z P) : Con mX0_init 4 0 0 [vr (some t0), ii (x1), ii (x2), ii (x3), ii (x4), vr (x5), vr (x6)] (cz z) (QZV P) := by
  refine con_of rfl (Nat.le_of_ble_eq_true rfl) (by decide) ?_
  show J mX0_init 4 0 0 _ 0 [some (vr (some t0)), some (ii (x1)), some (ii (x2)), some (ii (x3)), some (ii (x4)), some (vr (x5)), some (vr (x6))] [] (cz z)
  unfold F_X0_init at H
  refine j_aload_n (dk dt_X0_init 0 rfl) rfl ?_
  refine j_objInit (dk dt_X0_init 1 rfl) ol_X0_1 ob_1 ob_2 (by decide) (Nat.le_of_ble_eq_true rfl) ?_
  refine j_aload_n (dk dt_X0_init 2 rfl) rfl ?_
  refine j_iload_n (dk dt_X0_init 3 rfl) rfl ?_
  obtain ⟨k_6, H⟩ := H
  refine jz_putIF (kz := 0) (dk dt_X0_init 4 rfl) fl_X0_7 rfl (fun _ _ q => by cases q; rfl) rfl rfl rfl rfl rfl k_6 hw r_x1 (fun w_6 => ?_)
  replace H := H _ rfl
  refine j_aload_n (dk dt_X0_init 5 rfl) rfl ?_
  refine j_iload_n (dk dt_X0_init 6 rfl) rfl ?_
  refine jz_putIF (kz := 1) (dk dt_X0_init 7 rfl) fl_X0_13 rfl (fun _ _ q => by cases q; rfl) rfl rfl rfl rfl rfl k_6 w_6 r_x2 (fun w_11 => ?_)
  replace H := H _ rfl
  refine j_aload_n (dk dt_X0_init 8 rfl) rfl ?_
  refine j_iload_n (dk dt_X0_init 9 rfl) rfl ?_
  refine jz_putIF (kz := 2) (dk dt_X0_init 10 rfl) fl_X0_16 rfl (fun _ _ q => by cases q; rfl) rfl rfl rfl rfl rfl k_6 w_11 r_x3 (fun w_16 => ?_)
  replace H := H _ rfl
  refine j_aload_n (dk dt_X0_init 11 rfl) rfl ?_
  refine j_iload (dk dt_X0_init 12 rfl) rfl ?_
  obtain ⟨z1_22, H⟩ := H
  refine jz_putIF (kz := 3) (dk dt_X0_init 13 rfl) fl_X0_19 rfl (fun _ _ q => by cases q; rfl) rfl (nar_z z1_22) (fit_z z1_22) rfl rfl k_6 w_16 r_x4 (fun w_22 => ?_)
  replace H := H _ rfl
  refine j_aload_n (dk dt_X0_init 14 rfl) rfl ?_
  refine j_aload (dk dt_X0_init 15 rfl) rfl ?_
  refine jz_putOF (kz := 4) (dk dt_X0_init 16 rfl) fl_X0_23 rfl (fun _ _ q => by cases q; rfl) rfl rfl rfl k_6 w_22 (fun w_28 => ?_)
  replace H := H _ rfl
  refine j_aload_n (dk dt_X0_init 17 rfl) rfl ?_
  refine j_aload (dk dt_X0_init 18 rfl) rfl ?_
  refine jz_putOF (kz := 5) (dk dt_X0_init 19 rfl) fl_X0_27 rfl (fun _ _ q => by cases q; rfl) rfl rfl rfl k_6 w_28 (fun w_34 => ?_)
  replace H := H _ rfl
  exact j_return (dk dt_X0_init 20 rfl) rfl ⟨_, rfl, rfl, w_34, H⟩
def F_X10_put_31  (z : Z) (P : Z → Prop) : Prop :=
  P z
theorem T_X10_put_31  {z : Z} {P : Z → Prop}  (hw : Wz z)   (H : F_X10_put_31 z P) : J mX10_put 1 0 0 (nx (QZV P)) 31 [none, none] [] (cz z) := by
  unfold F_X10_put_31 at H
  exact j_return (dk dt_X10_put 17 rfl) rfl ⟨_, rfl, rfl, hw, H⟩
def F_X10_put  (t0 : Nat) (x1 : Int) (z : Z) (P : Z → Prop) : Prop :=
  (zK z t0 = 11 ∧ (if 2400 ≤ zI z t0 3 then F_X10_put_31 z P else (∃ a_20, zO z t0 0 = some a_20 ∧ zK z a_20 = 14 ∧ (0 ≤ zI z t0 3 ∧ zI z t0 3 < zN z a_20 ∧ (∀ z_20, z_20 = wI z a_20 (zI z t0 3) (w8 x1) → (∀ z_28, z_28 = wI z_20 t0 3 (w32 (zI z_20 t0 3 + 1)) → F_X10_put_31 z_28 P))))))
theorem T_X10_put  {t0 : Nat} {x1 : Int} {z : Z} {P : Z → Prop} (r_x1 : R32 x1) (hw : Wz z)  (H : F_X10_put t0 x1 z P) : Con mX10_put 1 0 0 [vr (some t0), ii (x1)] (cz z) (QZV P) := by
  refine con_of rfl (Nat.le_of_ble_eq_true rfl) (by decide) ?_
  show J mX10_put 1 0 0 _ 0 [some (vr (some t0)), some (ii (x1))] [] (cz z)
  unfold F_X10_put at H
  refine j_aload_n (dk dt_X10_put 0 rfl) rfl ?_
  obtain ⟨k_1, H⟩ := H
  refine jz_getI (kz := 3) (dk dt_X10_put 1 rfl) fl_X10_28 rfl rfl rfl k_1 ?_
  refine j_sipush (v := Int32.ofInt 2400) (dk dt_X10_put 2 rfl) (by decide) ?_
  refine jz_icmp_ge 31 (dk dt_X10_put 3 rfl) (by decide) (hw.1 _ _) (by decide) H (fun H => ?_) (fun H => ?_)
  · exact j_el (T_X10_put_31  hw   H) trivial
  · refine j_aload_n (dk dt_X10_put 4 rfl) rfl ?_
    refine jz_getO (kz := 0) (dk dt_X10_put 5 rfl) fl_X10_11 rfl rfl rfl k_1 ?_
    refine j_aload_n (dk dt_X10_put 6 rfl) rfl ?_
    refine jz_getI (kz := 3) (dk dt_X10_put 7 rfl) fl_X10_28 rfl rfl rfl k_1 ?_
    refine j_iload_n (dk dt_X10_put 8 rfl) rfl ?_
    refine jz_i2b (dk dt_X10_put 9 rfl) ?_
    obtain ⟨a_20, e_20, k_20, H⟩ := H
    obtain ⟨p_20, q_20, H⟩ := H
    refine jz_bast (dk dt_X10_put 10 rfl) e_20 k_20 p_20 q_20 hw (b8_w _) (fun w_20 => ?_)
    replace H := H _ rfl
    refine j_aload_n (dk dt_X10_put 11 rfl) rfl ?_
    refine j_dup (dk dt_X10_put 12 rfl) rfl ?_
    refine jz_getI (kz := 3) (dk dt_X10_put 13 rfl) fl_X10_28 rfl rfl rfl k_1 ?_
    refine j_iconst (v := Int32.ofInt 1) (dk dt_X10_put 14 rfl) (by decide) ?_
    refine jz_iadd (dk dt_X10_put 15 rfl) ?_
    refine jz_putI (kz := 3) (dk dt_X10_put 16 rfl) fl_X10_28 rfl rfl rfl rfl rfl k_1 w_20 (r32_w _) (fun w_28 => ?_)
    replace H := H _ rfl
    exact j_el (T_X10_put_31  w_28   H) trivial
def F_X8_set  (t0 : Nat) (x1 : Int) (x2 : Int) (z : Z) (P : Z → Prop) : Prop :=
  (zK z t0 = 9 ∧ (∀ z_2, z_2 = wI z t0 1 x1 → (∀ z_7, z_7 = wG z_2 t0 2 x2 → (∀ z_12, z_12 = wI z_7 t0 3 0 → P z_12))))
theorem T_X8_set  {t0 : Nat} {x1 : Int} {x2 : Int} {z : Z} {P : Z → Prop} (r_x1 : R32 x1) (r_x2 : R64 x2) (hw : Wz z)  (H : F_X8_set t0 x1 x2 z P) : Con mX8_set 1 0 0 [vr (some t0), ii (x1), ll (x2)] (cz z) (QZV P) := by
  refine con_of rfl (Nat.le_of_ble_eq_true rfl) (by decide) ?_
  show J mX8_set 1 0 0 _ 0 [some (vr (some t0)), some (ii (x1)), some (ll (x2)), none] [] (cz z)
  unfold F_X8_set at H
  refine j_aload_n (dk dt_X8_set 0 rfl) rfl ?_
  refine j_iload_n (dk dt_X8_set 1 rfl) rfl ?_
  obtain ⟨k_2, H⟩ := H
  refine jz_putI (kz := 1) (dk dt_X8_set 2 rfl) fl_X8_21 rfl rfl rfl rfl rfl k_2 hw r_x1 (fun w_2 => ?_)
  replace H := H _ rfl
  refine j_aload_n (dk dt_X8_set 3 rfl) rfl ?_
  refine j_lload_n (dk dt_X8_set 4 rfl) rfl ?_
  refine jz_putG (kz := 2) (dk dt_X8_set 5 rfl) fl_X8_25 rfl rfl rfl rfl rfl k_2 w_2 r_x2 (fun w_7 => ?_)
  replace H := H _ rfl
  refine j_aload_n (dk dt_X8_set 6 rfl) rfl ?_
  refine j_iconst (v := Int32.ofInt 0) (dk dt_X8_set 7 rfl) (by decide) ?_
  refine jz_putI (kz := 3) (dk dt_X8_set 8 rfl) fl_X8_29 rfl (nar_z (by decide)) (fit_z (by decide)) rfl rfl k_2 w_7 (by decide) (fun w_12 => ?_)
  replace H := H _ rfl
  exact j_return (dk dt_X8_set 9 rfl) rfl ⟨_, rfl, rfl, w_12, H⟩
def L_X8_becomeDecimals_30  (t0 : Nat) (x1 : Int) (x3 : Int) (x4 : Int) (z : Z) (P : (Int × Int) ⊕ ((Int)) → Prop) : Prop :=
  (if x4 ≤ 0 then P (.inr x3) else P (.inl (w32 (x3 + 1), w64 (Int.tdiv x4 10))))
theorem U_X8_becomeDecimals_30  {t0 : Nat} {x1 : Int} {x3 : Int} {x4 : Int} {z : Z} {P : (Int × Int) ⊕ ((Int)) → Prop} {post : Option Sv ⊕ String → Hp → Prop} (r_x1 : R64 x1) (r_x3 : R32 x3) (r_x4 : R64 x4) (hw : Wz z)  (hl : ∀ (x3 : Int) (x4 : Int), P (.inl (x3, x4)) → R32 x3 → R64 x4 → J mX8_becomeDecimals 4 0 0 post 30 [some (vr (some t0)), some (ll (x1)), none, some (ii (x3)), some (ll (x4)), none] [] (cz z)) (he0 : ∀ (x3 : Int), P (.inr x3) → R32 x3 → J mX8_becomeDecimals 4 0 0 post 51 [some (vr (some t0)), some (ll (x1)), none, some (ii (x3)), none, none] [] (cz z)) (H : L_X8_becomeDecimals_30 t0 x1 x3 x4 z P) : J mX8_becomeDecimals 4 0 0 post 30 [some (vr (some t0)), some (ll (x1)), none, some (ii (x3)), some (ll (x4)), none] [] (cz z) := by
  unfold L_X8_becomeDecimals_30 at H
  refine j_lload (dk dt_X8_becomeDecimals 17 rfl) rfl ?_
  refine j_lconst (v := Int64.ofInt 0) (dk dt_X8_becomeDecimals 18 rfl) (by decide) ?_
  refine jz_lcmp (dk dt_X8_becomeDecimals 19 rfl) r_x4 (by decide) ?_
  refine jz_lif_le 51 (dk dt_X8_becomeDecimals 20 rfl) (by decide) H (fun H => ?_) (fun H => ?_)
  · exact j_el (he0 _ H r_x3) (And.intro rfl (And.intro rfl (And.intro rfl trivial)))
  · refine jz_iinc (dk dt_X8_becomeDecimals 21 rfl) rfl ?_
    refine j_lload (dk dt_X8_becomeDecimals 22 rfl) rfl ?_
    refine j_ldc2 (v := Int64.ofInt (10)) (dk dt_X8_becomeDecimals 23 rfl) (by exact kl_X8_74) ?_
    refine jz_ldiv (dk dt_X8_becomeDecimals 24 rfl) r_x4 (by decide) (by decide) ?_
    refine j_lstore (dk dt_X8_becomeDecimals 25 rfl) (by decide) ?_
    refine j_goto 30 (dk dt_X8_becomeDecimals 26 rfl) (by decide) ?_
    exact j_el (hl _ _ H (r32_w _) (r64_w _)) (And.intro rfl (And.intro rfl (And.intro rfl (And.intro rfl trivial))))
def F_X8_becomeDecimals_98  (t0 : Nat) (x1 : Int) (x3 : Int) (x4 : Int) (s0 : Int) (s1 : Int) (z : Z) (P : (Int × Int × Z) ⊕ ((Z)) → Prop) : Prop :=
  (if s0 < s1 then P (.inr z) else (zK z t0 = 9 ∧ (∃ a_118, zO z t0 0 = some a_118 ∧ zK z a_118 = 14 ∧ (0 ≤ x4 ∧ x4 < zN z a_118 ∧ (∀ z_118, z_118 = wI z a_118 x4 (w8 (w32 (w64 (48 + (w64 (Int.tmod x1 10)))))) → P (.inl (w64 (Int.tdiv x1 10), w32 (x4 + (-1)), z_118)))))))
theorem T_X8_becomeDecimals_98  {t0 : Nat} {x1 : Int} {x3 : Int} {x4 : Int} {s0 : Int} {s1 : Int} {z : Z} {P : (Int × Int × Z) ⊕ ((Z)) → Prop} {post : Option Sv ⊕ String → Hp → Prop} (r_x1 : R64 x1) (r_x3 : R32 x3) (r_x4 : R32 x4) (r_s0 : R32 s0) (r_s1 : R32 s1) (hw : Wz z)  (hl : ∀ (x1 : Int) (x4 : Int) (z : Z), P (.inl (x1, x4, z)) → Wz z → R64 x1 → R32 x4 → J mX8_becomeDecimals 4 0 0 post 82 [some (vr (some t0)), some (ll (x1)), none, some (ii (x3)), some (ii (x4)), none] [] (cz z)) (he0 : ∀ (z : Z), P (.inr z) → Wz z → J mX8_becomeDecimals 4 0 0 post 131 [some (vr (some t0)), none, none, some (ii (x3)), none, none] [] (cz z)) (H : F_X8_becomeDecimals_98 t0 x1 x3 x4 s0 s1 z P) : J mX8_becomeDecimals 4 0 0 (post) 98 [some (vr (some t0)), some (ll (x1)), none, some (ii (x3)), some (ii (x4)), none] [ii (s1), ii (s0)] (cz z) := by
  unfold F_X8_becomeDecimals_98 at H
  refine jz_icmp_lt 131 (dk dt_X8_becomeDecimals 55 rfl) (by decide) r_s0 r_s1 H (fun H => ?_) (fun H => ?_)
  · exact j_el (he0 _ H hw) (And.intro rfl (And.intro rfl trivial))
  · refine j_aload_n (dk dt_X8_becomeDecimals 56 rfl) rfl ?_
    obtain ⟨k_102, H⟩ := H
    refine jz_getO (kz := 0) (dk dt_X8_becomeDecimals 57 rfl) fl_X8_15 rfl rfl rfl k_102 ?_
    refine j_iload (dk dt_X8_becomeDecimals 58 rfl) rfl ?_
    refine j_ldc2 (v := Int64.ofInt (48)) (dk dt_X8_becomeDecimals 59 rfl) (by exact kl_X8_76) ?_
    refine j_lload_n (dk dt_X8_becomeDecimals 60 rfl) rfl ?_
    refine j_ldc2 (v := Int64.ofInt (10)) (dk dt_X8_becomeDecimals 61 rfl) (by exact kl_X8_74) ?_
    refine jz_lrem (dk dt_X8_becomeDecimals 62 rfl) r_x1 (by decide) (by decide) ?_
    refine jz_ladd (dk dt_X8_becomeDecimals 63 rfl) ?_
    refine jz_l2i (dk dt_X8_becomeDecimals 64 rfl) ?_
    refine jz_i2b (dk dt_X8_becomeDecimals 65 rfl) ?_
    obtain ⟨a_118, e_118, k_118, H⟩ := H
    obtain ⟨p_118, q_118, H⟩ := H
    refine jz_bast (dk dt_X8_becomeDecimals 66 rfl) e_118 k_118 p_118 q_118 hw (b8_w _) (fun w_118 => ?_)
    replace H := H _ rfl
    refine j_lload_n (dk dt_X8_becomeDecimals 67 rfl) rfl ?_
    refine j_ldc2 (v := Int64.ofInt (10)) (dk dt_X8_becomeDecimals 68 rfl) (by exact kl_X8_74) ?_
    refine jz_ldiv (dk dt_X8_becomeDecimals 69 rfl) r_x1 (by decide) (by decide) ?_
    refine j_lstore_n (dk dt_X8_becomeDecimals 70 rfl) (by decide) ?_
    refine jz_iinc (dk dt_X8_becomeDecimals 71 rfl) rfl ?_
    refine j_goto 82 (dk dt_X8_becomeDecimals 72 rfl) (by decide) ?_
    exact j_el (hl _ _ _ H w_118 (r64_w _) (r32_w _)) (And.intro rfl (And.intro rfl (And.intro rfl (And.intro rfl trivial))))
def L_X8_becomeDecimals_82  (t0 : Nat) (x1 : Int) (x3 : Int) (x4 : Int) (z : Z) (P : (Int × Int × Z) ⊕ ((Z)) → Prop) : Prop :=
  (zK z t0 = 9 ∧ (if 0 ≤ zG z t0 2 then F_X8_becomeDecimals_98 t0 x1 x3 x4 x4 0 z P else F_X8_becomeDecimals_98 t0 x1 x3 x4 x4 1 z P))
theorem U_X8_becomeDecimals_82  {t0 : Nat} {x1 : Int} {x3 : Int} {x4 : Int} {z : Z} {P : (Int × Int × Z) ⊕ ((Z)) → Prop} {post : Option Sv ⊕ String → Hp → Prop} (r_x1 : R64 x1) (r_x3 : R32 x3) (r_x4 : R32 x4) (hw : Wz z)  (hl : ∀ (x1 : Int) (x4 : Int) (z : Z), P (.inl (x1, x4, z)) → Wz z → R64 x1 → R32 x4 → J mX8_becomeDecimals 4 0 0 post 82 [some (vr (some t0)), some (ll (x1)), none, some (ii (x3)), some (ii (x4)), none] [] (cz z)) (he0 : ∀ (z : Z), P (.inr z) → Wz z → J mX8_becomeDecimals 4 0 0 post 131 [some (vr (some t0)), none, none, some (ii (x3)), none, none] [] (cz z)) (H : L_X8_becomeDecimals_82 t0 x1 x3 x4 z P) : J mX8_becomeDecimals 4 0 0 post 82 [some (vr (some t0)), some (ll (x1)), none, some (ii (x3)), some (ii (x4)), none] [] (cz z) := by
  unfold L_X8_becomeDecimals_82 at H
  refine j_iload (dk dt_X8_becomeDecimals 46 rfl) rfl ?_
  refine j_aload_n (dk dt_X8_becomeDecimals 47 rfl) rfl ?_
  obtain ⟨k_85, H⟩ := H
  refine jz_getG (kz := 2) (dk dt_X8_becomeDecimals 48 rfl) fl_X8_25 rfl rfl rfl k_85 ?_
  refine j_lconst (v := Int64.ofInt 0) (dk dt_X8_becomeDecimals 49 rfl) (by decide) ?_
  refine jz_lcmp (dk dt_X8_becomeDecimals 50 rfl) (hw.2.1 _ _) (by decide) ?_
  refine jz_lif_ge 97 (dk dt_X8_becomeDecimals 51 rfl) (by decide) H (fun H => ?_) (fun H => ?_)
  · refine j_iconst (v := Int32.ofInt 0) (dk dt_X8_becomeDecimals 54 rfl) (by decide) ?_
    exact j_el (T_X8_becomeDecimals_98 r_x1 r_x3 r_x4 r_x4 (by decide) hw  hl he0 H) (And.intro rfl (And.intro rfl (And.intro rfl (And.intro rfl trivial))))
  · refine j_iconst (v := Int32.ofInt 1) (dk dt_X8_becomeDecimals 52 rfl) (by decide) ?_
    refine j_goto 98 (dk dt_X8_becomeDecimals 53 rfl) (by decide) ?_
    exact j_el (T_X8_becomeDecimals_98 r_x1 r_x3 r_x4 r_x4 (by decide) hw  hl he0 H) (And.intro rfl (And.intro rfl (And.intro rfl (And.intro rfl trivial))))
def F_X8_becomeDecimals_82  (t0 : Nat) (x1 : Int) (x3 : Int) (x4 : Int) (z : Z) (P : Z → Prop) : Prop :=
  lp (S := Int × Int × Z) (E := (Z)) (fun q P_ => L_X8_becomeDecimals_82 t0 q.1 x3 q.2.1 q.2.2 P_) (x1, x4, z) (fun (z : Z) => (zK z t0 = 9 ∧ F_X8_set t0 2 x3 z (fun z_135 => P z_135)))
theorem T_X8_becomeDecimals_82  {t0 : Nat} {x1 : Int} {x3 : Int} {x4 : Int} {z : Z} {P : Z → Prop} (r_x1 : R64 x1) (r_x3 : R32 x3) (r_x4 : R32 x4) (hw : Wz z)   (H : F_X8_becomeDecimals_82 t0 x1 x3 x4 z P) : J mX8_becomeDecimals 4 0 0 (nx (QZV P)) 82 [some (vr (some t0)), some (ll (x1)), none, some (ii (x3)), some (ii (x4)), none] [] (cz z) := by
  unfold F_X8_becomeDecimals_82 at H
  refine lp_J (G := fun q => Wz (q.2.2) → R64 (q.1) → R32 (q.2.1) → J mX8_becomeDecimals 4 0 0 (nx (QZV P)) 82 [some (vr (some t0)), some (ll ((q.1))), none, some (ii (x3)), some (ii ((q.2.1))), none] [] (cz (q.2.2))) (fun q P_ hl_ he_ Hb => ?_) (x1, x4, z) H hw r_x1 r_x4
  obtain ⟨x1, x4, z⟩ := q
  intro hw r_x1 r_x4
  refine U_X8_becomeDecimals_82 (P := P_) r_x1 r_x3 r_x4 hw  (fun x1 x4 z Hp hw r_x1 r_x4 => hl_ (x1, x4, z) Hp hw r_x1 r_x4) ?_ Hb
  · intro z Hp hw
    have H := he_ _ Hp
    refine j_aload_n (dk dt_X8_becomeDecimals 73 rfl) rfl ?_
    refine j_iconst (v := Int32.ofInt 2) (dk dt_X8_becomeDecimals 74 rfl) (by decide) ?_
    refine j_iload_n (dk dt_X8_becomeDecimals 75 rfl) rfl ?_
    refine jz_i2l (dk dt_X8_becomeDecimals 76 rfl) r_x3 ?_
    obtain ⟨k_135, H⟩ := H
    refine jz_callV2 (dk dt_X8_becomeDecimals 77 rfl) vl_X8_33 rfl (T_X8_set (by decide) (r64_3 r_x3) hw H) k_135 rfl (by decide) (Nat.zero_le _) (Nat.zero_le _) (Nat.le_of_ble_eq_true rfl) (fun v_135 h_135 P_135 => ?_)
    obtain ⟨z_135, rfl, rfl, w_135, H⟩ := P_135
    dsimp only [rs]
    exact j_return (dk dt_X8_becomeDecimals 78 rfl) rfl ⟨_, rfl, rfl, w_135, H⟩
def F_X8_becomeDecimals_30  (t0 : Nat) (x1 : Int) (x3 : Int) (x4 : Int) (z : Z) (P : Z → Prop) : Prop :=
  lp (S := Int × Int) (E := (Int)) (fun q P_ => L_X8_becomeDecimals_30 t0 x1 q.1 q.2 z P_) (x3, x4) (fun (x3 : Int) => (zK z t0 = 9 ∧ (∃ a_56, zO z t0 0 = some a_56 ∧ zK z a_56 = 14 ∧ (if x3 ≤ zN z a_56 then ((0 : Int) ≤ 0 ∧ 0 < zN z a_56 ∧ (∀ z_76, z_76 = wI z a_56 0 45 → F_X8_becomeDecimals_82 t0 x1 x3 (w32 (x3 - 1)) z_76 P)) else F_X8_set t0 4 5 z (fun z_65 => P z_65)))))
theorem T_X8_becomeDecimals_30  {t0 : Nat} {x1 : Int} {x3 : Int} {x4 : Int} {z : Z} {P : Z → Prop} (r_x1 : R64 x1) (r_x3 : R32 x3) (r_x4 : R64 x4) (hw : Wz z)   (H : F_X8_becomeDecimals_30 t0 x1 x3 x4 z P) : J mX8_becomeDecimals 4 0 0 (nx (QZV P)) 30 [some (vr (some t0)), some (ll (x1)), none, some (ii (x3)), some (ll (x4)), none] [] (cz z) := by
  unfold F_X8_becomeDecimals_30 at H
  refine lp_J (G := fun q => R32 (q.1) → R64 (q.2) → J mX8_becomeDecimals 4 0 0 (nx (QZV P)) 30 [some (vr (some t0)), some (ll (x1)), none, some (ii ((q.1))), some (ll ((q.2))), none] [] (cz z)) (fun q P_ hl_ he_ Hb => ?_) (x3, x4) H r_x3 r_x4
  obtain ⟨x3, x4⟩ := q
  intro r_x3 r_x4
  refine U_X8_becomeDecimals_30 (P := P_) r_x1 r_x3 r_x4 hw  (fun x3 x4 Hp r_x3 r_x4 => hl_ (x3, x4) Hp r_x3 r_x4) ?_ Hb
  · intro x3 Hp r_x3
    have H := he_ _ Hp
    refine j_iload_n (dk dt_X8_becomeDecimals 27 rfl) rfl ?_
    refine j_aload_n (dk dt_X8_becomeDecimals 28 rfl) rfl ?_
    obtain ⟨k_53, H⟩ := H
    refine jz_getO (kz := 0) (dk dt_X8_becomeDecimals 29 rfl) fl_X8_15 rfl rfl rfl k_53 ?_
    obtain ⟨a_56, e_56, k_56, H⟩ := H
    refine jz_alen (t := 0) (dk dt_X8_becomeDecimals 30 rfl) e_56 k_56 (by decide) hw ?_
    refine jz_icmp_le 69 (dk dt_X8_becomeDecimals 31 rfl) (by decide) r_x3 (r32_len hw _) H (fun H => ?_) (fun H => ?_)
    · refine j_aload_n (dk dt_X8_becomeDecimals 37 rfl) rfl ?_
      refine jz_getO (kz := 0) (dk dt_X8_becomeDecimals 38 rfl) fl_X8_15 rfl rfl rfl k_53 ?_
      refine j_iconst (v := Int32.ofInt 0) (dk dt_X8_becomeDecimals 39 rfl) (by decide) ?_
      refine j_bipush (v := Int32.ofInt 45) (dk dt_X8_becomeDecimals 40 rfl) (by decide) ?_
      obtain ⟨p_76, q_76, H⟩ := H
      refine jz_bast (dk dt_X8_becomeDecimals 41 rfl) e_56 k_56 p_76 q_76 hw (by decide) (fun w_76 => ?_)
      replace H := H _ rfl
      refine j_iload_n (dk dt_X8_becomeDecimals 42 rfl) rfl ?_
      refine j_iconst (v := Int32.ofInt 1) (dk dt_X8_becomeDecimals 43 rfl) (by decide) ?_
      refine jz_isub (dk dt_X8_becomeDecimals 44 rfl) ?_
      refine j_istore (dk dt_X8_becomeDecimals 45 rfl) (by decide) ?_
      exact j_el (T_X8_becomeDecimals_82 r_x1 r_x3 (r32_w _) w_76   H) (And.intro rfl (And.intro rfl (And.intro rfl (And.intro rfl trivial))))
    · refine j_aload_n (dk dt_X8_becomeDecimals 32 rfl) rfl ?_
      refine j_iconst (v := Int32.ofInt 4) (dk dt_X8_becomeDecimals 33 rfl) (by decide) ?_
      refine j_ldc2 (v := Int64.ofInt (5)) (dk dt_X8_becomeDecimals 34 rfl) (by exact kl_X8_49) ?_
      refine jz_callV2 (dk dt_X8_becomeDecimals 35 rfl) vl_X8_33 rfl (T_X8_set (by decide) (by decide) hw H) k_53 rfl (by decide) (Nat.zero_le _) (Nat.zero_le _) (Nat.le_of_ble_eq_true rfl) (fun v_65 h_65 P_65 => ?_)
      obtain ⟨z_65, rfl, rfl, w_65, H⟩ := P_65
      dsimp only [rs]
      exact j_return (dk dt_X8_becomeDecimals 36 rfl) rfl ⟨_, rfl, rfl, w_65, H⟩
def F_X8_becomeDecimals_22  (t0 : Nat) (x1 : Int) (s0 : Int) (z : Z) (P : Z → Prop) : Prop :=
  F_X8_becomeDecimals_30 t0 x1 s0 (w64 (Int.tdiv x1 10)) z P
theorem T_X8_becomeDecimals_22  {t0 : Nat} {x1 : Int} {s0 : Int} {z : Z} {P : Z → Prop} (r_x1 : R64 x1) (r_s0 : R32 s0) (hw : Wz z)   (H : F_X8_becomeDecimals_22 t0 x1 s0 z P) : J mX8_becomeDecimals 4 0 0 (nx (QZV P)) 22 [some (vr (some t0)), some (ll (x1)), none, none, none, none] [ii (s0)] (cz z) := by
  unfold F_X8_becomeDecimals_22 at H
  refine j_istore_n (dk dt_X8_becomeDecimals 12 rfl) (by decide) ?_
  refine j_lload_n (dk dt_X8_becomeDecimals 13 rfl) rfl ?_
  refine j_ldc2 (v := Int64.ofInt (10)) (dk dt_X8_becomeDecimals 14 rfl) (by exact kl_X8_74) ?_
  refine jz_ldiv (dk dt_X8_becomeDecimals 15 rfl) r_x1 (by decide) (by decide) ?_
  refine j_lstore (dk dt_X8_becomeDecimals 16 rfl) (by decide) ?_
  exact j_el (T_X8_becomeDecimals_30 r_x1 r_s0 (r64_w _) hw   H) (And.intro rfl (And.intro rfl (And.intro rfl (And.intro rfl trivial))))
def F_X8_becomeDecimals  (t0 : Nat) (z : Z) (P : Z → Prop) : Prop :=
  (zK z t0 = 9 ∧ (if 0 ≤ zG z t0 2 then F_X8_becomeDecimals_22 t0 (if 0 ≤ zG z t0 2 then zG z t0 2 else w64 (0 - (zG z t0 2))) 1 z P else F_X8_becomeDecimals_22 t0 (if 0 ≤ zG z t0 2 then zG z t0 2 else w64 (0 - (zG z t0 2))) 2 z P))
theorem T_X8_becomeDecimals  {t0 : Nat} {z : Z} {P : Z → Prop}  (hw : Wz z)  (H : F_X8_becomeDecimals t0 z P) : Con mX8_becomeDecimals 4 0 0 [vr (some t0)] (cz z) (QZV P) := by
  refine con_of rfl (Nat.le_of_ble_eq_true rfl) (by decide) ?_
  show J mX8_becomeDecimals 4 0 0 _ 0 [some (vr (some t0)), none, none, none, none, none] [] (cz z)
  unfold F_X8_becomeDecimals at H
  refine j_aload_n (dk dt_X8_becomeDecimals 0 rfl) rfl ?_
  obtain ⟨k_1, H⟩ := H
  refine jz_getG (kz := 2) (dk dt_X8_becomeDecimals 1 rfl) fl_X8_25 rfl rfl rfl k_1 ?_
  refine jz_lmabs (dk dt_X8_becomeDecimals 2 rfl) sl_X8_70 (by decide) (Nat.le_of_ble_eq_true rfl) (hw.2.1 _ _) ?_
  refine j_lstore_n (dk dt_X8_becomeDecimals 3 rfl) (by decide) ?_
  refine j_aload_n (dk dt_X8_becomeDecimals 4 rfl) rfl ?_
  refine jz_getG (kz := 2) (dk dt_X8_becomeDecimals 5 rfl) fl_X8_25 rfl rfl rfl k_1 ?_
  refine j_lconst (v := Int64.ofInt 0) (dk dt_X8_becomeDecimals 6 rfl) (by decide) ?_
  refine jz_lcmp (dk dt_X8_becomeDecimals 7 rfl) (hw.2.1 _ _) (by decide) ?_
  refine jz_lif_ge 21 (dk dt_X8_becomeDecimals 8 rfl) (by decide) H (fun H => ?_) (fun H => ?_)
  · refine j_iconst (v := Int32.ofInt 1) (dk dt_X8_becomeDecimals 11 rfl) (by decide) ?_
    exact j_el (T_X8_becomeDecimals_22 (r64_if (hw.2.1 _ _) (r64_w _)) (by decide) hw   H) (And.intro rfl (And.intro rfl trivial))
  · refine j_iconst (v := Int32.ofInt 2) (dk dt_X8_becomeDecimals 9 rfl) (by decide) ?_
    refine j_goto 22 (dk dt_X8_becomeDecimals 10 rfl) (by decide) ?_
    exact j_el (T_X8_becomeDecimals_22 (r64_if (hw.2.1 _ _) (r64_w _)) (by decide) hw   H) (And.intro rfl (And.intro rfl trivial))
def L_X8_becomeWord_2  (t0 : Nat) (x1 : Nat) (x2 : Int) (z : Z) (P : (Int × Z) ⊕ ((Z)) → Prop) : Prop :=
  (x1 < 44 ∧ (if sLen x1 ≤ x2 then P (.inr z) else (zK z t0 = 9 ∧ (∃ a_15, zO z t0 0 = some a_15 ∧ zK z a_15 = 14 ∧ (if zN z a_15 ≤ x2 then P (.inr z) else (x1 < 44 ∧ (0 ≤ x2 ∧ x2 < sLen x1 ∧ (0 ≤ x2 ∧ x2 < zN z a_15 ∧ (∀ z_30, z_30 = wI z a_15 x2 (w8 (sCh x1 x2)) → P (.inl (w32 (x2 + 1), z_30)))))))))))
theorem U_X8_becomeWord_2  {t0 : Nat} {x1 : Nat} {x2 : Int} {z : Z} {P : (Int × Z) ⊕ ((Z)) → Prop} {post : Option Sv ⊕ String → Hp → Prop} (r_x2 : R32 x2) (hw : Wz z)  (hl : ∀ (x2 : Int) (z : Z), P (.inl (x2, z)) → Wz z → R32 x2 → J mX8_becomeWord 7 0 0 post 2 [some (vr (some t0)), some (vs (x1)), some (ii (x2))] [] (cz z)) (he0 : ∀ (z : Z), P (.inr z) → Wz z → J mX8_becomeWord 7 0 0 post 37 [some (vr (some t0)), some (vs (x1)), none] [] (cz z)) (H : L_X8_becomeWord_2 t0 x1 x2 z P) : J mX8_becomeWord 7 0 0 post 2 [some (vr (some t0)), some (vs (x1)), some (ii (x2))] [] (cz z) := by
  unfold L_X8_becomeWord_2 at H
  refine j_iload_n (dk dt_X8_becomeWord 2 rfl) rfl ?_
  refine j_aloadS_n (dk dt_X8_becomeWord 3 rfl) rfl ?_
  obtain ⟨l_4, H⟩ := H
  refine jz_slength (dk dt_X8_becomeWord 4 rfl) sv_X8_78 l_4 (by decide) (Nat.le_of_ble_eq_true rfl) ?_
  refine jz_icmp_ge 37 (dk dt_X8_becomeWord 5 rfl) (by decide) r_x2 (r32_sLen _) H (fun H => ?_) (fun H => ?_)
  · exact j_el (he0 _ H hw) (And.intro rfl (And.intro rfl trivial))
  · refine j_iload_n (dk dt_X8_becomeWord 6 rfl) rfl ?_
    refine j_aload_n (dk dt_X8_becomeWord 7 rfl) rfl ?_
    obtain ⟨k_12, H⟩ := H
    refine jz_getO (kz := 0) (dk dt_X8_becomeWord 8 rfl) fl_X8_15 rfl rfl rfl k_12 ?_
    obtain ⟨a_15, e_15, k_15, H⟩ := H
    refine jz_alen (t := 0) (dk dt_X8_becomeWord 9 rfl) e_15 k_15 (by decide) hw ?_
    refine jz_icmp_ge 37 (dk dt_X8_becomeWord 10 rfl) (by decide) r_x2 (r32_len hw _) H (fun H => ?_) (fun H => ?_)
    · exact j_el (he0 _ H hw) (And.intro rfl (And.intro rfl trivial))
    · refine j_aload_n (dk dt_X8_becomeWord 11 rfl) rfl ?_
      refine jz_getO (kz := 0) (dk dt_X8_becomeWord 12 rfl) fl_X8_15 rfl rfl rfl k_12 ?_
      refine j_iload_n (dk dt_X8_becomeWord 13 rfl) rfl ?_
      refine j_aloadS_n (dk dt_X8_becomeWord 14 rfl) rfl ?_
      refine j_iload_n (dk dt_X8_becomeWord 15 rfl) rfl ?_
      obtain ⟨l_26, H⟩ := H
      obtain ⟨p_26, q_26, H⟩ := H
      refine jz_scharAt (dk dt_X8_becomeWord 16 rfl) sv_X8_84 l_26 p_26 q_26 (by decide) (Nat.le_of_ble_eq_true rfl) ?_
      refine jz_i2b (dk dt_X8_becomeWord 17 rfl) ?_
      obtain ⟨p_30, q_30, H⟩ := H
      refine jz_bast (dk dt_X8_becomeWord 18 rfl) e_15 k_15 p_30 q_30 hw (b8_w _) (fun w_30 => ?_)
      replace H := H _ rfl
      refine jz_iinc (dk dt_X8_becomeWord 19 rfl) rfl ?_
      refine j_goto 2 (dk dt_X8_becomeWord 20 rfl) (by decide) ?_
      exact j_el (hl _ _ H w_30 (r32_w _)) (And.intro rfl (And.intro rfl (And.intro rfl trivial)))
def F_X8_becomeWord_37  (t0 : Nat) (x1 : Nat) (z : Z) (P : Z → Prop) : Prop :=
  (x1 < 44 ∧ (zK z t0 = 9 ∧ F_X8_set t0 2 (sLen x1) z (fun z_44 => P z_44)))
theorem T_X8_becomeWord_37  {t0 : Nat} {x1 : Nat} {z : Z} {P : Z → Prop}  (hw : Wz z)   (H : F_X8_becomeWord_37 t0 x1 z P) : J mX8_becomeWord 7 0 0 (nx (QZV P)) 37 [some (vr (some t0)), some (vs (x1)), none] [] (cz z) := by
  unfold F_X8_becomeWord_37 at H
  refine j_aload_n (dk dt_X8_becomeWord 21 rfl) rfl ?_
  refine j_iconst (v := Int32.ofInt 2) (dk dt_X8_becomeWord 22 rfl) (by decide) ?_
  refine j_aloadS_n (dk dt_X8_becomeWord 23 rfl) rfl ?_
  obtain ⟨l_40, H⟩ := H
  refine jz_slength (dk dt_X8_becomeWord 24 rfl) sv_X8_78 l_40 (by decide) (Nat.le_of_ble_eq_true rfl) ?_
  refine jz_i2l (dk dt_X8_becomeWord 25 rfl) (r32_sLen _) ?_
  obtain ⟨k_44, H⟩ := H
  refine jz_callV2 (dk dt_X8_becomeWord 26 rfl) vl_X8_33 rfl (T_X8_set (by decide) (r64_3 (r32_sLen _)) hw H) k_44 rfl (by decide) (Nat.zero_le _) (Nat.zero_le _) (Nat.le_of_ble_eq_true rfl) (fun v_44 h_44 P_44 => ?_)
  obtain ⟨z_44, rfl, rfl, w_44, H⟩ := P_44
  dsimp only [rs]
  exact j_return (dk dt_X8_becomeWord 27 rfl) rfl ⟨_, rfl, rfl, w_44, H⟩
def F_X8_becomeWord_2  (t0 : Nat) (x1 : Nat) (x2 : Int) (z : Z) (P : Z → Prop) : Prop :=
  lp (S := Int × Z) (E := (Z)) (fun q P_ => L_X8_becomeWord_2 t0 x1 q.1 q.2 P_) (x2, z) (fun (z : Z) => F_X8_becomeWord_37 t0 x1 z P)
theorem T_X8_becomeWord_2  {t0 : Nat} {x1 : Nat} {x2 : Int} {z : Z} {P : Z → Prop} (r_x2 : R32 x2) (hw : Wz z)   (H : F_X8_becomeWord_2 t0 x1 x2 z P) : J mX8_becomeWord 7 0 0 (nx (QZV P)) 2 [some (vr (some t0)), some (vs (x1)), some (ii (x2))] [] (cz z) := by
  unfold F_X8_becomeWord_2 at H
  refine lp_J (G := fun q => Wz (q.2) → R32 (q.1) → J mX8_becomeWord 7 0 0 (nx (QZV P)) 2 [some (vr (some t0)), some (vs (x1)), some (ii ((q.1)))] [] (cz (q.2))) (fun q P_ hl_ he_ Hb => ?_) (x2, z) H hw r_x2
  obtain ⟨x2, z⟩ := q
  intro hw r_x2
  refine U_X8_becomeWord_2 (P := P_) r_x2 hw  (fun x2 z Hp hw r_x2 => hl_ (x2, z) Hp hw r_x2) ?_ Hb
  · intro z Hp hw
    have H := he_ _ Hp
    exact j_el (T_X8_becomeWord_37  hw   H) (And.intro rfl (And.intro rfl trivial))
def F_X8_becomeWord  (t0 : Nat) (x1 : Nat) (z : Z) (P : Z → Prop) : Prop :=
  F_X8_becomeWord_2 t0 x1 0 z P
theorem T_X8_becomeWord  {t0 : Nat} {x1 : Nat} {z : Z} {P : Z → Prop}  (hw : Wz z)  (H : F_X8_becomeWord t0 x1 z P) : Con mX8_becomeWord 7 0 0 [vr (some t0), vs (x1)] (cz z) (QZV P) := by
  refine con_of rfl (Nat.le_of_ble_eq_true rfl) (by decide) ?_
  show J mX8_becomeWord 7 0 0 _ 0 [some (vr (some t0)), some (vs (x1)), none] [] (cz z)
  unfold F_X8_becomeWord at H
  refine j_iconst (v := Int32.ofInt 0) (dk dt_X8_becomeWord 0 rfl) (by decide) ?_
  refine j_istore_n (dk dt_X8_becomeWord 1 rfl) (by decide) ?_
  exact j_el (T_X8_becomeWord_2 (by decide) hw   H) (And.intro rfl (And.intro rfl (And.intro rfl trivial)))
def F_X8_becomeText_59  (z : Z) (P : Z → Prop) : Prop :=
  P z
theorem T_X8_becomeText_59  {z : Z} {P : Z → Prop}  (hw : Wz z)   (H : F_X8_becomeText_59 z P) : J mX8_becomeText 8 0 0 (nx (QZV P)) 59 [none] [] (cz z) := by
  unfold F_X8_becomeText_59 at H
  exact j_return (dk dt_X8_becomeText 29 rfl) rfl ⟨_, rfl, rfl, hw, H⟩
def F_X8_becomeText_40  (s0 : Option Nat) (s1 : Nat) (z : Z) (P : Z → Prop) : Prop :=
  (∃ a_40, s0 = some a_40 ∧ zK z a_40 = 9 ∧ F_X8_becomeWord a_40 s1 z (fun z_40 => F_X8_becomeText_59 z_40 P))
theorem T_X8_becomeText_40  {s0 : Option Nat} {s1 : Nat} {z : Z} {P : Z → Prop}  (hw : Wz z)   (H : F_X8_becomeText_40 s0 s1 z P) : J mX8_becomeText 8 0 0 (nx (QZV P)) 40 [none] [vs (s1), vr (s0)] (cz z) := by
  unfold F_X8_becomeText_40 at H
  obtain ⟨a_40, e_40, k_40, H⟩ := H
  refine jz_callV1 (dk dt_X8_becomeText 20 rfl) vl_X8_66 e_40 (T_X8_becomeWord hw H) k_40 rfl (by decide) (Nat.zero_le _) (Nat.zero_le _) (Nat.le_of_ble_eq_true rfl) (fun v_40 h_40 P_40 => ?_)
  obtain ⟨z_40, rfl, rfl, w_40, H⟩ := P_40
  dsimp only [rs]
  refine j_goto 59 (dk dt_X8_becomeText 21 rfl) (by decide) ?_
  exact j_el (T_X8_becomeText_59  w_40   H) trivial
def F_X8_becomeText  (t0 : Nat) (z : Z) (P : Z → Prop) : Prop :=
  (zK z t0 = 9 ∧ (if zI z t0 1 = 1 then F_X8_becomeDecimals t0 z (fun z_9 => F_X8_becomeText_59 z_9 P) else (if zI z t0 1 = 3 then (if zG z t0 2 = 0 then F_X8_becomeText_40 (some t0) 1 z P else F_X8_becomeText_40 (some t0) 0 z P) else (if zI z t0 1 = 0 then F_X8_set t0 2 0 z (fun z_56 => F_X8_becomeText_59 z_56 P) else F_X8_becomeText_59 z P))))
theorem T_X8_becomeText  {t0 : Nat} {z : Z} {P : Z → Prop}  (hw : Wz z)  (H : F_X8_becomeText t0 z P) : Con mX8_becomeText 8 0 0 [vr (some t0)] (cz z) (QZV P) := by
  refine con_of rfl (Nat.le_of_ble_eq_true rfl) (by decide) ?_
  show J mX8_becomeText 8 0 0 _ 0 [some (vr (some t0))] [] (cz z)
  unfold F_X8_becomeText at H
  refine j_aload_n (dk dt_X8_becomeText 0 rfl) rfl ?_
  obtain ⟨k_1, H⟩ := H
  refine jz_getI (kz := 1) (dk dt_X8_becomeText 1 rfl) fl_X8_21 rfl rfl rfl k_1 ?_
  refine j_iconst (v := Int32.ofInt 1) (dk dt_X8_becomeText 2 rfl) (by decide) ?_
  refine jz_icmp_ne 15 (dk dt_X8_becomeText 3 rfl) (by decide) (hw.1 _ _) (by decide) H (fun H => ?_) (fun H => ?_)
  · refine j_aload_n (dk dt_X8_becomeText 4 rfl) rfl ?_
    refine jz_callV0 (dk dt_X8_becomeText 5 rfl) vl_X8_59 rfl (T_X8_becomeDecimals hw H) k_1 rfl (by decide) (Nat.zero_le _) (Nat.zero_le _) (Nat.le_of_ble_eq_true rfl) (fun v_9 h_9 P_9 => ?_)
    obtain ⟨z_9, rfl, rfl, w_9, H⟩ := P_9
    dsimp only [rs]
    refine j_goto 59 (dk dt_X8_becomeText 6 rfl) (by decide) ?_
    exact j_el (T_X8_becomeText_59  w_9   H) trivial
  · refine j_aload_n (dk dt_X8_becomeText 7 rfl) rfl ?_
    refine jz_getI (kz := 1) (dk dt_X8_becomeText 8 rfl) fl_X8_21 rfl rfl rfl k_1 ?_
    refine j_iconst (v := Int32.ofInt 3) (dk dt_X8_becomeText 9 rfl) (by decide) ?_
    refine jz_icmp_ne 46 (dk dt_X8_becomeText 10 rfl) (by decide) (hw.1 _ _) (by decide) H (fun H => ?_) (fun H => ?_)
    · refine j_aload_n (dk dt_X8_becomeText 11 rfl) rfl ?_
      refine j_aload_n (dk dt_X8_becomeText 12 rfl) rfl ?_
      refine jz_getG (kz := 2) (dk dt_X8_becomeText 13 rfl) fl_X8_25 rfl rfl rfl k_1 ?_
      refine j_lconst (v := Int64.ofInt 0) (dk dt_X8_becomeText 14 rfl) (by decide) ?_
      refine jz_lcmp (dk dt_X8_becomeText 15 rfl) (hw.2.1 _ _) (by decide) ?_
      refine jz_lif_eq 38 (dk dt_X8_becomeText 16 rfl) (by decide) H (fun H => ?_) (fun H => ?_)
      · refine j_ldcS 1 rfl (dk dt_X8_becomeText 19 rfl) rfl rfl ?_
        exact j_el (T_X8_becomeText_40  hw   H) trivial
      · refine j_ldcS 0 rfl (dk dt_X8_becomeText 17 rfl) rfl rfl ?_
        refine j_goto 40 (dk dt_X8_becomeText 18 rfl) (by decide) ?_
        exact j_el (T_X8_becomeText_40  hw   H) trivial
    · refine j_aload_n (dk dt_X8_becomeText 22 rfl) rfl ?_
      refine jz_getI (kz := 1) (dk dt_X8_becomeText 23 rfl) fl_X8_21 rfl rfl rfl k_1 ?_
      refine jz_if_ne 59 (dk dt_X8_becomeText 24 rfl) (by decide) (hw.1 _ _) H (fun H => ?_) (fun H => ?_)
      · refine j_aload_n (dk dt_X8_becomeText 25 rfl) rfl ?_
        refine j_iconst (v := Int32.ofInt 2) (dk dt_X8_becomeText 26 rfl) (by decide) ?_
        refine j_lconst (v := Int64.ofInt 0) (dk dt_X8_becomeText 27 rfl) (by decide) ?_
        refine jz_callV2 (dk dt_X8_becomeText 28 rfl) vl_X8_33 rfl (T_X8_set (by decide) (by decide) hw H) k_1 rfl (by decide) (Nat.zero_le _) (Nat.zero_le _) (Nat.le_of_ble_eq_true rfl) (fun v_56 h_56 P_56 => ?_)
        obtain ⟨z_56, rfl, rfl, w_56, H⟩ := P_56
        dsimp only [rs]
        exact j_el (T_X8_becomeText_59  w_56   H) trivial
      · exact j_el (T_X8_becomeText_59  hw   H) trivial
def F_X8_setBytes_76  (t0 : Nat) (s0 : Option Nat) (s1 : Int) (z : Z) (P : Z → Prop) : Prop :=
  (∃ a_76, s0 = some a_76 ∧ zK z a_76 = 9 ∧ (∀ z_76, z_76 = wG z a_76 2 s1 → (zK z_76 t0 = 9 ∧ (∀ z_81, z_81 = wI z_76 t0 3 0 → P z_81))))
theorem T_X8_setBytes_76  {t0 : Nat} {s0 : Option Nat} {s1 : Int} {z : Z} {P : Z → Prop} (r_s1 : R64 s1) (hw : Wz z)   (H : F_X8_setBytes_76 t0 s0 s1 z P) : J mX8_setBytes 4 0 0 (nx (QZV P)) 76 [some (vr (some t0)), none, none, none, none] [ll (s1), vr (s0)] (cz z) := by
  unfold F_X8_setBytes_76 at H
  obtain ⟨a_76, e_76, k_76, H⟩ := H
  refine jz_putG (kz := 2) (dk dt_X8_setBytes 42 rfl) fl_X8_25 rfl rfl rfl rfl e_76 k_76 hw r_s1 (fun w_76 => ?_)
  replace H := H _ rfl
  refine j_aload_n (dk dt_X8_setBytes 43 rfl) rfl ?_
  refine j_iconst (v := Int32.ofInt 0) (dk dt_X8_setBytes 44 rfl) (by decide) ?_
  obtain ⟨k_81, H⟩ := H
  refine jz_putI (kz := 3) (dk dt_X8_setBytes 45 rfl) fl_X8_29 rfl (nar_z (by decide)) (fit_z (by decide)) rfl rfl k_81 w_76 (by decide) (fun w_81 => ?_)
  replace H := H _ rfl
  exact j_return (dk dt_X8_setBytes 46 rfl) rfl ⟨_, rfl, rfl, w_81, H⟩
def F_X8_setBytes_59  (t0 : Nat) (x3 : Int) (x4 : Int) (s0 : Option Nat) (s1 : Int) (z : Z) (P : Z → Prop) : Prop :=
  (∃ a_59, s0 = some a_59 ∧ zK z a_59 = 9 ∧ (∀ z_59, z_59 = wI z a_59 1 s1 → (if x4 = 0 then F_X8_setBytes_76 t0 (some t0) 5 z_59 P else F_X8_setBytes_76 t0 (some t0) x3 z_59 P)))
theorem T_X8_setBytes_59  {t0 : Nat} {x3 : Int} {x4 : Int} {s0 : Option Nat} {s1 : Int} {z : Z} {P : Z → Prop} (r_x3 : R32 x3) (r_x4 : R32 x4) (r_s1 : R32 s1) (hw : Wz z)   (H : F_X8_setBytes_59 t0 x3 x4 s0 s1 z P) : J mX8_setBytes 4 0 0 (nx (QZV P)) 59 [some (vr (some t0)), none, none, some (ii (x3)), some (ii (x4))] [ii (s1), vr (s0)] (cz z) := by
  unfold F_X8_setBytes_59 at H
  obtain ⟨a_59, e_59, k_59, H⟩ := H
  refine jz_putI (kz := 1) (dk dt_X8_setBytes 34 rfl) fl_X8_21 rfl rfl rfl rfl e_59 k_59 hw r_s1 (fun w_59 => ?_)
  replace H := H _ rfl
  refine j_aload_n (dk dt_X8_setBytes 35 rfl) rfl ?_
  refine j_iload (dk dt_X8_setBytes 36 rfl) rfl ?_
  refine jz_if_eq 73 (dk dt_X8_setBytes 37 rfl) (by decide) r_x4 H (fun H => ?_) (fun H => ?_)
  · refine j_ldc2 (v := Int64.ofInt (5)) (dk dt_X8_setBytes 41 rfl) (by exact kl_X8_49) ?_
    exact j_el (T_X8_setBytes_76 (by decide) w_59   H) (And.intro rfl trivial)
  · refine j_iload_n (dk dt_X8_setBytes 38 rfl) rfl ?_
    refine jz_i2l (dk dt_X8_setBytes 39 rfl) r_x3 ?_
    refine j_goto 76 (dk dt_X8_setBytes 40 rfl) (by decide) ?_
    exact j_el (T_X8_setBytes_76 (r64_3 r_x3) w_59   H) (And.intro rfl trivial)
def F_X8_setBytes_48  (t0 : Nat) (x3 : Int) (x4 : Int) (z : Z) (P : Z → Prop) : Prop :=
  (if x4 = 0 then F_X8_setBytes_59 t0 x3 x4 (some t0) 4 z P else F_X8_setBytes_59 t0 x3 x4 (some t0) 2 z P)
theorem T_X8_setBytes_48  {t0 : Nat} {x3 : Int} {x4 : Int} {z : Z} {P : Z → Prop} (r_x3 : R32 x3) (r_x4 : R32 x4) (hw : Wz z)   (H : F_X8_setBytes_48 t0 x3 x4 z P) : J mX8_setBytes 4 0 0 (nx (QZV P)) 48 [some (vr (some t0)), none, none, some (ii (x3)), some (ii (x4))] [] (cz z) := by
  unfold F_X8_setBytes_48 at H
  refine j_aload_n (dk dt_X8_setBytes 28 rfl) rfl ?_
  refine j_iload (dk dt_X8_setBytes 29 rfl) rfl ?_
  refine jz_if_eq 58 (dk dt_X8_setBytes 30 rfl) (by decide) r_x4 H (fun H => ?_) (fun H => ?_)
  · refine j_iconst (v := Int32.ofInt 4) (dk dt_X8_setBytes 33 rfl) (by decide) ?_
    exact j_el (T_X8_setBytes_59 r_x3 r_x4 (by decide) hw   H) (And.intro rfl (And.intro rfl (And.intro rfl trivial)))
  · refine j_iconst (v := Int32.ofInt 2) (dk dt_X8_setBytes 31 rfl) (by decide) ?_
    refine j_goto 59 (dk dt_X8_setBytes 32 rfl) (by decide) ?_
    exact j_el (T_X8_setBytes_59 r_x3 r_x4 (by decide) hw   H) (And.intro rfl (And.intro rfl (And.intro rfl trivial)))
def F_X8_setBytes_30  (t0 : Nat) (x1 : Option Nat) (x2 : Int) (x3 : Int) (s0 : Int) (z : Z) (P : Z → Prop) : Prop :=
  (if s0 = 0 then F_X8_setBytes_48 t0 x3 s0 z P else (zK z t0 = 9 ∧ (∃ a_45s, x1 = some a_45s ∧ zK z a_45s = 14 ∧ (∃ a_45d, zO z t0 0 = some a_45d ∧ zK z a_45d = 14 ∧ (0 ≤ x2 ∧ (0 : Int) ≤ 0 ∧ 0 ≤ x3 ∧ x2 + x3 ≤ zN z a_45s ∧ 0 + x3 ≤ zN z a_45d ∧ (∀ z_45, z_45 = cpI2 z a_45s x2 a_45d 0 x3 → F_X8_setBytes_48 t0 x3 s0 z_45 P))))))
theorem T_X8_setBytes_30  {t0 : Nat} {x1 : Option Nat} {x2 : Int} {x3 : Int} {s0 : Int} {z : Z} {P : Z → Prop} (r_x2 : R32 x2) (r_x3 : R32 x3) (r_s0 : R32 s0) (hw : Wz z)   (H : F_X8_setBytes_30 t0 x1 x2 x3 s0 z P) : J mX8_setBytes 4 0 0 (nx (QZV P)) 30 [some (vr (some t0)), some (vr (x1)), some (ii (x2)), some (ii (x3)), none] [ii (s0)] (cz z) := by
  unfold F_X8_setBytes_30 at H
  refine j_istore (dk dt_X8_setBytes 18 rfl) (by decide) ?_
  refine j_iload (dk dt_X8_setBytes 19 rfl) rfl ?_
  refine jz_if_eq 48 (dk dt_X8_setBytes 20 rfl) (by decide) r_s0 H (fun H => ?_) (fun H => ?_)
  · exact j_el (T_X8_setBytes_48 r_x3 r_s0 hw   H) (And.intro rfl (And.intro rfl (And.intro rfl trivial)))
  · refine j_aload_n (dk dt_X8_setBytes 21 rfl) rfl ?_
    refine j_iload_n (dk dt_X8_setBytes 22 rfl) rfl ?_
    refine j_aload_n (dk dt_X8_setBytes 23 rfl) rfl ?_
    obtain ⟨k_40, H⟩ := H
    refine jz_getO (kz := 0) (dk dt_X8_setBytes 24 rfl) fl_X8_15 rfl rfl rfl k_40 ?_
    refine j_iconst (v := Int32.ofInt 0) (dk dt_X8_setBytes 25 rfl) (by decide) ?_
    refine j_iload_n (dk dt_X8_setBytes 26 rfl) rfl ?_
    obtain ⟨a_45s, e_45s, k_45s, H⟩ := H
    obtain ⟨a_45d, e_45d, k_45d, H⟩ := H
    obtain ⟨p1_45, p2_45, p3_45, p4_45, p5_45, H⟩ := H
    refine jz_copyB (dk dt_X8_setBytes 27 rfl) ac_X8_43 e_45s k_45s e_45d k_45d p1_45 p2_45 p3_45 p4_45 p5_45 (by decide) (Nat.le_of_ble_eq_true rfl) hw (fun w_45 => ?_)
    replace H := H _ rfl
    exact j_el (T_X8_setBytes_48 r_x3 r_s0 w_45   H) (And.intro rfl (And.intro rfl (And.intro rfl trivial)))
def F_X8_setBytes_29  (t0 : Nat) (x1 : Option Nat) (x2 : Int) (x3 : Int) (z : Z) (P : Z → Prop) : Prop :=
  F_X8_setBytes_30 t0 x1 x2 x3 0 z P
theorem T_X8_setBytes_29  {t0 : Nat} {x1 : Option Nat} {x2 : Int} {x3 : Int} {z : Z} {P : Z → Prop} (r_x2 : R32 x2) (r_x3 : R32 x3) (hw : Wz z)   (H : F_X8_setBytes_29 t0 x1 x2 x3 z P) : J mX8_setBytes 4 0 0 (nx (QZV P)) 29 [some (vr (some t0)), some (vr (x1)), some (ii (x2)), some (ii (x3)), none] [] (cz z) := by
  unfold F_X8_setBytes_29 at H
  refine j_iconst (v := Int32.ofInt 0) (dk dt_X8_setBytes 17 rfl) (by decide) ?_
  exact j_el (T_X8_setBytes_30 r_x2 r_x3 (by decide) hw   H) (And.intro rfl (And.intro rfl (And.intro rfl (And.intro rfl trivial))))
def F_X8_setBytes  (t0 : Nat) (x1 : Option Nat) (x2 : Int) (x3 : Int) (z : Z) (P : Z → Prop) : Prop :=
  (if x3 < 0 then F_X8_setBytes_29 t0 x1 x2 x3 z P else (zK z t0 = 9 ∧ (∃ a_9, zO z t0 0 = some a_9 ∧ zK z a_9 = 14 ∧ (if zN z a_9 < x3 then F_X8_setBytes_29 t0 x1 x2 x3 z P else (if x2 < 0 then F_X8_setBytes_29 t0 x1 x2 x3 z P else (∃ a_19, x1 = some a_19 ∧ zK z a_19 = 14 ∧ (if w32 ((zN z a_19) - x3) < x2 then F_X8_setBytes_29 t0 x1 x2 x3 z P else F_X8_setBytes_30 t0 x1 x2 x3 1 z P)))))))
theorem T_X8_setBytes  {t0 : Nat} {x1 : Option Nat} {x2 : Int} {x3 : Int} {z : Z} {P : Z → Prop} (r_x2 : R32 x2) (r_x3 : R32 x3) (hw : Wz z)  (H : F_X8_setBytes t0 x1 x2 x3 z P) : Con mX8_setBytes 4 0 0 [vr (some t0), vr (x1), ii (x2), ii (x3)] (cz z) (QZV P) := by
  refine con_of rfl (Nat.le_of_ble_eq_true rfl) (by decide) ?_
  show J mX8_setBytes 4 0 0 _ 0 [some (vr (some t0)), some (vr (x1)), some (ii (x2)), some (ii (x3)), none] [] (cz z)
  unfold F_X8_setBytes at H
  refine j_iload_n (dk dt_X8_setBytes 0 rfl) rfl ?_
  refine jz_if_lt 29 (dk dt_X8_setBytes 1 rfl) (by decide) r_x3 H (fun H => ?_) (fun H => ?_)
  · exact j_el (T_X8_setBytes_29 r_x2 r_x3 hw   H) (And.intro rfl (And.intro rfl (And.intro rfl (And.intro rfl trivial))))
  · refine j_iload_n (dk dt_X8_setBytes 2 rfl) rfl ?_
    refine j_aload_n (dk dt_X8_setBytes 3 rfl) rfl ?_
    obtain ⟨k_6, H⟩ := H
    refine jz_getO (kz := 0) (dk dt_X8_setBytes 4 rfl) fl_X8_15 rfl rfl rfl k_6 ?_
    obtain ⟨a_9, e_9, k_9, H⟩ := H
    refine jz_alen (t := 0) (dk dt_X8_setBytes 5 rfl) e_9 k_9 (by decide) hw ?_
    refine jz_icmp_gt 29 (dk dt_X8_setBytes 6 rfl) (by decide) r_x3 (r32_len hw _) H (fun H => ?_) (fun H => ?_)
    · exact j_el (T_X8_setBytes_29 r_x2 r_x3 hw   H) (And.intro rfl (And.intro rfl (And.intro rfl (And.intro rfl trivial))))
    · refine j_iload_n (dk dt_X8_setBytes 7 rfl) rfl ?_
      refine jz_if_lt 29 (dk dt_X8_setBytes 8 rfl) (by decide) r_x2 H (fun H => ?_) (fun H => ?_)
      · exact j_el (T_X8_setBytes_29 r_x2 r_x3 hw   H) (And.intro rfl (And.intro rfl (And.intro rfl (And.intro rfl trivial))))
      · refine j_iload_n (dk dt_X8_setBytes 9 rfl) rfl ?_
        refine j_aload_n (dk dt_X8_setBytes 10 rfl) rfl ?_
        obtain ⟨a_19, e_19, k_19, H⟩ := H
        refine jz_alen (t := 0) (dk dt_X8_setBytes 11 rfl) e_19 k_19 (by decide) hw ?_
        refine j_iload_n (dk dt_X8_setBytes 12 rfl) rfl ?_
        refine jz_isub (dk dt_X8_setBytes 13 rfl) ?_
        refine jz_icmp_gt 29 (dk dt_X8_setBytes 14 rfl) (by decide) r_x2 (r32_w _) H (fun H => ?_) (fun H => ?_)
        · exact j_el (T_X8_setBytes_29 r_x2 r_x3 hw   H) (And.intro rfl (And.intro rfl (And.intro rfl (And.intro rfl trivial))))
        · refine j_iconst (v := Int32.ofInt 1) (dk dt_X8_setBytes 15 rfl) (by decide) ?_
          refine j_goto 30 (dk dt_X8_setBytes 16 rfl) (by decide) ?_
          exact j_el (T_X8_setBytes_30 r_x2 r_x3 (by decide) hw   H) (And.intro rfl (And.intro rfl (And.intro rfl (And.intro rfl trivial))))
def F_X8_take_37  (z : Z) (P : Z → Prop) : Prop :=
  P z
theorem T_X8_take_37  {z : Z} {P : Z → Prop}  (hw : Wz z)   (H : F_X8_take_37 z P) : J mX8_take 5 0 0 (nx (QZV P)) 37 [none, none] [] (cz z) := by
  unfold F_X8_take_37 at H
  exact j_return (dk dt_X8_take 19 rfl) rfl ⟨_, rfl, rfl, hw, H⟩
def F_X8_take  (t0 : Nat) (x1 : Option Nat) (z : Z) (P : Z → Prop) : Prop :=
  (∃ a_1, x1 = some a_1 ∧ zK z a_1 = 9 ∧ (if zI z a_1 1 = 2 then (zK z t0 = 9 ∧ F_X8_setBytes t0 (zO z a_1 0) 0 (w32 (zG z a_1 2)) z (fun z_19 => F_X8_take_37 z_19 P)) else (zK z t0 = 9 ∧ F_X8_set t0 (zI z a_1 1) (zG z a_1 2) z (fun z_34 => F_X8_take_37 z_34 P))))
theorem T_X8_take  {t0 : Nat} {x1 : Option Nat} {z : Z} {P : Z → Prop}  (hw : Wz z)  (H : F_X8_take t0 x1 z P) : Con mX8_take 5 0 0 [vr (some t0), vr (x1)] (cz z) (QZV P) := by
  refine con_of rfl (Nat.le_of_ble_eq_true rfl) (by decide) ?_
  show J mX8_take 5 0 0 _ 0 [some (vr (some t0)), some (vr (x1))] [] (cz z)
  unfold F_X8_take at H
  refine j_aload_n (dk dt_X8_take 0 rfl) rfl ?_
  obtain ⟨a_1, e_1, k_1, H⟩ := H
  refine jz_getI (kz := 1) (dk dt_X8_take 1 rfl) fl_X8_21 rfl rfl e_1 k_1 ?_
  refine j_iconst (v := Int32.ofInt 2) (dk dt_X8_take 2 rfl) (by decide) ?_
  refine jz_icmp_ne 25 (dk dt_X8_take 3 rfl) (by decide) (hw.1 _ _) (by decide) H (fun H => ?_) (fun H => ?_)
  · refine j_aload_n (dk dt_X8_take 4 rfl) rfl ?_
    refine j_aload_n (dk dt_X8_take 5 rfl) rfl ?_
    refine jz_getO (kz := 0) (dk dt_X8_take 6 rfl) fl_X8_15 rfl rfl e_1 k_1 ?_
    refine j_iconst (v := Int32.ofInt 0) (dk dt_X8_take 7 rfl) (by decide) ?_
    refine j_aload_n (dk dt_X8_take 8 rfl) rfl ?_
    refine jz_getG (kz := 2) (dk dt_X8_take 9 rfl) fl_X8_25 rfl rfl e_1 k_1 ?_
    refine jz_l2i (dk dt_X8_take 10 rfl) ?_
    obtain ⟨k_19, H⟩ := H
    refine jz_callV3 (dk dt_X8_take 11 rfl) vl_X8_51 rfl (T_X8_setBytes (by decide) (r32_w _) hw H) k_19 rfl (by decide) (Nat.zero_le _) (Nat.zero_le _) (Nat.le_of_ble_eq_true rfl) (fun v_19 h_19 P_19 => ?_)
    obtain ⟨z_19, rfl, rfl, w_19, H⟩ := P_19
    dsimp only [rs]
    refine j_goto 37 (dk dt_X8_take 12 rfl) (by decide) ?_
    exact j_el (T_X8_take_37  w_19   H) trivial
  · refine j_aload_n (dk dt_X8_take 13 rfl) rfl ?_
    refine j_aload_n (dk dt_X8_take 14 rfl) rfl ?_
    refine jz_getI (kz := 1) (dk dt_X8_take 15 rfl) fl_X8_21 rfl rfl e_1 k_1 ?_
    refine j_aload_n (dk dt_X8_take 16 rfl) rfl ?_
    refine jz_getG (kz := 2) (dk dt_X8_take 17 rfl) fl_X8_25 rfl rfl e_1 k_1 ?_
    obtain ⟨k_34, H⟩ := H
    refine jz_callV2 (dk dt_X8_take 18 rfl) vl_X8_33 rfl (T_X8_set (hw.1 _ _) (hw.2.1 _ _) hw H) k_34 rfl (by decide) (Nat.zero_le _) (Nat.zero_le _) (Nat.le_of_ble_eq_true rfl) (fun v_34 h_34 P_34 => ?_)
    obtain ⟨z_34, rfl, rfl, w_34, H⟩ := P_34
    dsimp only [rs]
    exact j_el (T_X8_take_37  w_34   H) trivial
def L_X10_putValue_17  (t0 : Nat) (x2 : Int) (z : Z) (P : (Int × Z) ⊕ ((Z)) → Prop) : Prop :=
  (zK z t0 = 11 ∧ (∃ a_23, zO z t0 2 = some a_23 ∧ zK z a_23 = 9 ∧ (if zG z a_23 2 ≤ x2 then P (.inr z) else (if 24 ≤ x2 then P (.inr z) else (∃ a_45, zO z a_23 0 = some a_45 ∧ zK z a_45 = 14 ∧ (0 ≤ x2 ∧ x2 < zN z a_45 ∧ F_X10_put t0 (zI z a_45 x2) z (fun z_46 => P (.inl (w32 (x2 + 1), z_46)))))))))
theorem U_X10_putValue_17  {t0 : Nat} {x2 : Int} {z : Z} {P : (Int × Z) ⊕ ((Z)) → Prop} {post : Option Sv ⊕ String → Hp → Prop} (r_x2 : R32 x2) (hw : Wz z)  (hl : ∀ (x2 : Int) (z : Z), P (.inl (x2, z)) → Wz z → R32 x2 → J mX10_putValue 9 0 0 post 17 [some (vr (some t0)), none, some (ii (x2))] [] (cz z)) (he0 : ∀ (z : Z), P (.inr z) → Wz z → J mX10_putValue 9 0 0 post 55 [none, none, none] [] (cz z)) (H : L_X10_putValue_17 t0 x2 z P) : J mX10_putValue 9 0 0 post 17 [some (vr (some t0)), none, some (ii (x2))] [] (cz z) := by
  unfold L_X10_putValue_17 at H
  refine j_iload_n (dk dt_X10_putValue 9 rfl) rfl ?_
  refine jz_i2l (dk dt_X10_putValue 10 rfl) r_x2 ?_
  refine j_aload_n (dk dt_X10_putValue 11 rfl) rfl ?_
  obtain ⟨k_20, H⟩ := H
  refine jz_getO (kz := 2) (dk dt_X10_putValue 12 rfl) fl_X10_24 rfl rfl rfl k_20 ?_
  obtain ⟨a_23, e_23, k_23, H⟩ := H
  refine jz_getG (kz := 2) (dk dt_X10_putValue 13 rfl) fl_X10_71 rfl rfl e_23 k_23 ?_
  refine jz_lcmp (dk dt_X10_putValue 14 rfl) (r64_3 r_x2) (hw.2.1 _ _) ?_
  refine jz_lif_ge 55 (dk dt_X10_putValue 15 rfl) (by decide) H (fun H => ?_) (fun H => ?_)
  · exact j_el (he0 _ H hw) trivial
  · refine j_iload_n (dk dt_X10_putValue 16 rfl) rfl ?_
    refine j_bipush (v := Int32.ofInt 24) (dk dt_X10_putValue 17 rfl) (by decide) ?_
    refine jz_icmp_ge 55 (dk dt_X10_putValue 18 rfl) (by decide) r_x2 (by decide) H (fun H => ?_) (fun H => ?_)
    · exact j_el (he0 _ H hw) trivial
    · refine j_aload_n (dk dt_X10_putValue 19 rfl) rfl ?_
      refine j_aload_n (dk dt_X10_putValue 20 rfl) rfl ?_
      refine jz_getO (kz := 2) (dk dt_X10_putValue 21 rfl) fl_X10_24 rfl rfl rfl k_20 ?_
      refine jz_getO (kz := 0) (dk dt_X10_putValue 22 rfl) fl_X10_75 rfl rfl e_23 k_23 ?_
      refine j_iload_n (dk dt_X10_putValue 23 rfl) rfl ?_
      obtain ⟨a_45, e_45, k_45, H⟩ := H
      obtain ⟨p_45, q_45, H⟩ := H
      refine jz_bald (dk dt_X10_putValue 24 rfl) e_45 k_45 p_45 q_45 hw ?_
      refine jz_callV1 (dk dt_X10_putValue 25 rfl) vl_X10_53 rfl (T_X10_put (hw.1 _ _) hw H) k_20 rfl (by decide) (Nat.zero_le _) (Nat.zero_le _) (Nat.le_of_ble_eq_true rfl) (fun v_46 h_46 P_46 => ?_)
      obtain ⟨z_46, rfl, rfl, w_46, H⟩ := P_46
      dsimp only [rs]
      refine jz_iinc (dk dt_X10_putValue 26 rfl) rfl ?_
      refine j_goto 17 (dk dt_X10_putValue 27 rfl) (by decide) ?_
      exact j_el (hl _ _ H w_46 (r32_w _)) (And.intro rfl (And.intro rfl trivial))
def F_X10_putValue_55  (z : Z) (P : Z → Prop) : Prop :=
  P z
theorem T_X10_putValue_55  {z : Z} {P : Z → Prop}  (hw : Wz z)   (H : F_X10_putValue_55 z P) : J mX10_putValue 9 0 0 (nx (QZV P)) 55 [none, none, none] [] (cz z) := by
  unfold F_X10_putValue_55 at H
  exact j_return (dk dt_X10_putValue 28 rfl) rfl ⟨_, rfl, rfl, hw, H⟩
def F_X10_putValue_17  (t0 : Nat) (x2 : Int) (z : Z) (P : Z → Prop) : Prop :=
  lp (S := Int × Z) (E := (Z)) (fun q P_ => L_X10_putValue_17 t0 q.1 q.2 P_) (x2, z) (fun (z : Z) => F_X10_putValue_55 z P)
theorem T_X10_putValue_17  {t0 : Nat} {x2 : Int} {z : Z} {P : Z → Prop} (r_x2 : R32 x2) (hw : Wz z)   (H : F_X10_putValue_17 t0 x2 z P) : J mX10_putValue 9 0 0 (nx (QZV P)) 17 [some (vr (some t0)), none, some (ii (x2))] [] (cz z) := by
  unfold F_X10_putValue_17 at H
  refine lp_J (G := fun q => Wz (q.2) → R32 (q.1) → J mX10_putValue 9 0 0 (nx (QZV P)) 17 [some (vr (some t0)), none, some (ii ((q.1)))] [] (cz (q.2))) (fun q P_ hl_ he_ Hb => ?_) (x2, z) H hw r_x2
  obtain ⟨x2, z⟩ := q
  intro hw r_x2
  refine U_X10_putValue_17 (P := P_) r_x2 hw  (fun x2 z Hp hw r_x2 => hl_ (x2, z) Hp hw r_x2) ?_ Hb
  · intro z Hp hw
    have H := he_ _ Hp
    exact j_el (T_X10_putValue_55  hw   H) trivial
def F_X10_putValue  (t0 : Nat) (x1 : Option Nat) (z : Z) (P : Z → Prop) : Prop :=
  (zK z t0 = 11 ∧ (∃ a_5, zO z t0 2 = some a_5 ∧ zK z a_5 = 9 ∧ F_X8_take a_5 x1 z (fun z_5 => (zK z_5 t0 = 11 ∧ (∃ a_12, zO z_5 t0 2 = some a_12 ∧ zK z_5 a_12 = 9 ∧ F_X8_becomeText a_12 z_5 (fun z_12 => F_X10_putValue_17 t0 0 z_12 P))))))
theorem T_X10_putValue  {t0 : Nat} {x1 : Option Nat} {z : Z} {P : Z → Prop}  (hw : Wz z)  (H : F_X10_putValue t0 x1 z P) : Con mX10_putValue 9 0 0 [vr (some t0), vr (x1)] (cz z) (QZV P) := by
  refine con_of rfl (Nat.le_of_ble_eq_true rfl) (by decide) ?_
  show J mX10_putValue 9 0 0 _ 0 [some (vr (some t0)), some (vr (x1)), none] [] (cz z)
  unfold F_X10_putValue at H
  refine j_aload_n (dk dt_X10_putValue 0 rfl) rfl ?_
  obtain ⟨k_1, H⟩ := H
  refine jz_getO (kz := 2) (dk dt_X10_putValue 1 rfl) fl_X10_24 rfl rfl rfl k_1 ?_
  refine j_aload_n (dk dt_X10_putValue 2 rfl) rfl ?_
  obtain ⟨a_5, e_5, k_5, H⟩ := H
  refine jz_callV1 (dk dt_X10_putValue 3 rfl) vl_X10_85 e_5 (T_X8_take hw H) k_5 rfl (by decide) (Nat.zero_le _) (Nat.zero_le _) (Nat.le_of_ble_eq_true rfl) (fun v_5 h_5 P_5 => ?_)
  obtain ⟨z_5, rfl, rfl, w_5, H⟩ := P_5
  dsimp only [rs]
  refine j_aload_n (dk dt_X10_putValue 4 rfl) rfl ?_
  obtain ⟨k_9, H⟩ := H
  refine jz_getO (kz := 2) (dk dt_X10_putValue 5 rfl) fl_X10_24 rfl rfl rfl k_9 ?_
  obtain ⟨a_12, e_12, k_12, H⟩ := H
  refine jz_callV0 (dk dt_X10_putValue 6 rfl) vl_X10_88 e_12 (T_X8_becomeText w_5 H) k_12 rfl (by decide) (Nat.zero_le _) (Nat.zero_le _) (Nat.le_of_ble_eq_true rfl) (fun v_12 h_12 P_12 => ?_)
  obtain ⟨z_12, rfl, rfl, w_12, H⟩ := P_12
  dsimp only [rs]
  refine j_iconst (v := Int32.ofInt 0) (dk dt_X10_putValue 7 rfl) (by decide) ?_
  refine j_istore_n (dk dt_X10_putValue 8 rfl) (by decide) ?_
  exact j_el (T_X10_putValue_17 (by decide) w_12   H) (And.intro rfl (And.intro rfl trivial))
def F_X10_literal_38  (z : Z) (P : Z → Prop) : Prop :=
  P z
theorem T_X10_literal_38  {z : Z} {P : Z → Prop}  (hw : Wz z)   (H : F_X10_literal_38 z P) : J mX10_literal 10 0 0 (nx (QZV P)) 38 [none, none] [] (cz z) := by
  unfold F_X10_literal_38 at H
  exact j_return (dk dt_X10_literal 20 rfl) rfl ⟨_, rfl, rfl, hw, H⟩
def F_X10_literal_19  (t0 : Nat) (x1 : Option Nat) (z : Z) (P : Z → Prop) : Prop :=
  (zK z t0 = 11 ∧ F_X10_putValue t0 x1 z (fun z_21 => (∃ a_25, x1 = some a_25 ∧ zK z_21 a_25 = 9 ∧ (if zI z_21 a_25 1 = 2 then (zK z_21 t0 = 11 ∧ F_X10_put t0 34 z_21 (fun z_35 => F_X10_literal_38 z_35 P)) else F_X10_literal_38 z_21 P))))
theorem T_X10_literal_19  {t0 : Nat} {x1 : Option Nat} {z : Z} {P : Z → Prop}  (hw : Wz z)   (H : F_X10_literal_19 t0 x1 z P) : J mX10_literal 10 0 0 (nx (QZV P)) 19 [some (vr (some t0)), some (vr (x1))] [] (cz z) := by
  unfold F_X10_literal_19 at H
  refine j_aload_n (dk dt_X10_literal 10 rfl) rfl ?_
  refine j_aload_n (dk dt_X10_literal 11 rfl) rfl ?_
  obtain ⟨k_21, H⟩ := H
  refine jz_callV1 (dk dt_X10_literal 12 rfl) vl_X10_67 rfl (T_X10_putValue hw H) k_21 rfl (by decide) (Nat.zero_le _) (Nat.zero_le _) (Nat.le_of_ble_eq_true rfl) (fun v_21 h_21 P_21 => ?_)
  obtain ⟨z_21, rfl, rfl, w_21, H⟩ := P_21
  dsimp only [rs]
  refine j_aload_n (dk dt_X10_literal 13 rfl) rfl ?_
  obtain ⟨a_25, e_25, k_25, H⟩ := H
  refine jz_getI (kz := 1) (dk dt_X10_literal 14 rfl) fl_X10_140 rfl rfl e_25 k_25 ?_
  refine j_iconst (v := Int32.ofInt 2) (dk dt_X10_literal 15 rfl) (by decide) ?_
  refine jz_icmp_ne 38 (dk dt_X10_literal 16 rfl) (by decide) (w_21.1 _ _) (by decide) H (fun H => ?_) (fun H => ?_)
  · refine j_aload_n (dk dt_X10_literal 17 rfl) rfl ?_
    refine j_bipush (v := Int32.ofInt 34) (dk dt_X10_literal 18 rfl) (by decide) ?_
    obtain ⟨k_35, H⟩ := H
    refine jz_callV1 (dk dt_X10_literal 19 rfl) vl_X10_53 rfl (T_X10_put (by decide) w_21 H) k_35 rfl (by decide) (Nat.zero_le _) (Nat.zero_le _) (Nat.le_of_ble_eq_true rfl) (fun v_35 h_35 P_35 => ?_)
    obtain ⟨z_35, rfl, rfl, w_35, H⟩ := P_35
    dsimp only [rs]
    exact j_el (T_X10_literal_38  w_35   H) trivial
  · exact j_el (T_X10_literal_38  w_21   H) trivial
def F_X10_literal  (t0 : Nat) (x1 : Option Nat) (z : Z) (P : Z → Prop) : Prop :=
  (if x1 = none then P z else (∃ a_6, x1 = some a_6 ∧ zK z a_6 = 9 ∧ (if zI z a_6 1 = 2 then (zK z t0 = 11 ∧ F_X10_put t0 34 z (fun z_16 => F_X10_literal_19 t0 x1 z_16 P)) else F_X10_literal_19 t0 x1 z P)))
theorem T_X10_literal  {t0 : Nat} {x1 : Option Nat} {z : Z} {P : Z → Prop}  (hw : Wz z)  (H : F_X10_literal t0 x1 z P) : Con mX10_literal 10 0 0 [vr (some t0), vr (x1)] (cz z) (QZV P) := by
  refine con_of rfl (Nat.le_of_ble_eq_true rfl) (by decide) ?_
  show J mX10_literal 10 0 0 _ 0 [some (vr (some t0)), some (vr (x1))] [] (cz z)
  unfold F_X10_literal at H
  refine j_aload_n (dk dt_X10_literal 0 rfl) rfl ?_
  refine jz_ifnonnull 5 (dk dt_X10_literal 1 rfl) (by decide) H (fun H => ?_) (fun H => ?_)
  · exact j_return (dk dt_X10_literal 2 rfl) rfl ⟨_, rfl, rfl, hw, H⟩
  · refine j_aload_n (dk dt_X10_literal 3 rfl) rfl ?_
    obtain ⟨a_6, e_6, k_6, H⟩ := H
    refine jz_getI (kz := 1) (dk dt_X10_literal 4 rfl) fl_X10_140 rfl rfl e_6 k_6 ?_
    refine j_iconst (v := Int32.ofInt 2) (dk dt_X10_literal 5 rfl) (by decide) ?_
    refine jz_icmp_ne 19 (dk dt_X10_literal 6 rfl) (by decide) (hw.1 _ _) (by decide) H (fun H => ?_) (fun H => ?_)
    · refine j_aload_n (dk dt_X10_literal 7 rfl) rfl ?_
      refine j_bipush (v := Int32.ofInt 34) (dk dt_X10_literal 8 rfl) (by decide) ?_
      obtain ⟨k_16, H⟩ := H
      refine jz_callV1 (dk dt_X10_literal 9 rfl) vl_X10_53 rfl (T_X10_put (by decide) hw H) k_16 rfl (by decide) (Nat.zero_le _) (Nat.zero_le _) (Nat.le_of_ble_eq_true rfl) (fun v_16 h_16 P_16 => ?_)
      obtain ⟨z_16, rfl, rfl, w_16, H⟩ := P_16
      dsimp only [rs]
      exact j_el (T_X10_literal_19  w_16   H) (And.intro rfl (And.intro rfl trivial))
    · exact j_el (T_X10_literal_19  hw   H) (And.intro rfl (And.intro rfl trivial))
def F_X10_putNumber_17  (t0 : Nat) (x1 : Int) (z : Z) (P : Z → Prop) : Prop :=
  (zK z t0 = 11 ∧ F_X10_put t0 (w32 (48 + (w32 (Int.tmod x1 10)))) z (fun z_25 => P z_25))
theorem T_X10_putNumber_17  {t0 : Nat} {x1 : Int} {z : Z} {P : Z → Prop} (r_x1 : R32 x1) (hw : Wz z)   (H : F_X10_putNumber_17 t0 x1 z P) : J mX10_putNumber 2 0 0 (nx (QZV P)) 17 [some (vr (some t0)), some (ii (x1))] [] (cz z) := by
  unfold F_X10_putNumber_17 at H
  refine j_aload_n (dk dt_X10_putNumber 10 rfl) rfl ?_
  refine j_bipush (v := Int32.ofInt 48) (dk dt_X10_putNumber 11 rfl) (by decide) ?_
  refine j_iload_n (dk dt_X10_putNumber 12 rfl) rfl ?_
  refine j_bipush (v := Int32.ofInt 10) (dk dt_X10_putNumber 13 rfl) (by decide) ?_
  refine jz_irem (dk dt_X10_putNumber 14 rfl) r_x1 (by decide) (by decide) ?_
  refine jz_iadd (dk dt_X10_putNumber 15 rfl) ?_
  obtain ⟨k_25, H⟩ := H
  refine jz_callV1 (dk dt_X10_putNumber 16 rfl) vl_X10_53 rfl (T_X10_put (r32_w _) hw H) k_25 rfl (by decide) (Nat.zero_le _) (Nat.zero_le _) (Nat.le_of_ble_eq_true rfl) (fun v_25 h_25 P_25 => ?_)
  obtain ⟨z_25, rfl, rfl, w_25, H⟩ := P_25
  dsimp only [rs]
  exact j_return (dk dt_X10_putNumber 17 rfl) rfl ⟨_, rfl, rfl, w_25, H⟩
def F_X10_putNumber  (t0 : Nat) (x1 : Int) (z : Z) (P : Z → Prop) : Prop :=
  (if x1 < 10 then F_X10_putNumber_17 t0 x1 z P else (zK z t0 = 11 ∧ F_X10_put t0 (w32 (48 + (w32 (Int.tdiv x1 10)))) z (fun z_14 => F_X10_putNumber_17 t0 x1 z_14 P)))
theorem T_X10_putNumber  {t0 : Nat} {x1 : Int} {z : Z} {P : Z → Prop} (r_x1 : R32 x1) (hw : Wz z)  (H : F_X10_putNumber t0 x1 z P) : Con mX10_putNumber 2 0 0 [vr (some t0), ii (x1)] (cz z) (QZV P) := by
  refine con_of rfl (Nat.le_of_ble_eq_true rfl) (by decide) ?_
  show J mX10_putNumber 2 0 0 _ 0 [some (vr (some t0)), some (ii (x1))] [] (cz z)
  unfold F_X10_putNumber at H
  refine j_iload_n (dk dt_X10_putNumber 0 rfl) rfl ?_
  refine j_bipush (v := Int32.ofInt 10) (dk dt_X10_putNumber 1 rfl) (by decide) ?_
  refine jz_icmp_lt 17 (dk dt_X10_putNumber 2 rfl) (by decide) r_x1 (by decide) H (fun H => ?_) (fun H => ?_)
  · exact j_el (T_X10_putNumber_17 r_x1 hw   H) (And.intro rfl (And.intro rfl trivial))
  · refine j_aload_n (dk dt_X10_putNumber 3 rfl) rfl ?_
    refine j_bipush (v := Int32.ofInt 48) (dk dt_X10_putNumber 4 rfl) (by decide) ?_
    refine j_iload_n (dk dt_X10_putNumber 5 rfl) rfl ?_
    refine j_bipush (v := Int32.ofInt 10) (dk dt_X10_putNumber 6 rfl) (by decide) ?_
    refine jz_idiv (dk dt_X10_putNumber 7 rfl) r_x1 (by decide) (by decide) ?_
    refine jz_iadd (dk dt_X10_putNumber 8 rfl) ?_
    obtain ⟨k_14, H⟩ := H
    refine jz_callV1 (dk dt_X10_putNumber 9 rfl) vl_X10_53 rfl (T_X10_put (r32_w _) hw H) k_14 rfl (by decide) (Nat.zero_le _) (Nat.zero_le _) (Nat.le_of_ble_eq_true rfl) (fun v_14 h_14 P_14 => ?_)
    obtain ⟨z_14, rfl, rfl, w_14, H⟩ := P_14
    dsimp only [rs]
    exact j_el (T_X10_putNumber_17 r_x1 w_14   H) (And.intro rfl (And.intro rfl trivial))
def F_X10_corner_34  (t0 : Nat) (x1 : Int) (z : Z) (P : Z → Prop) : Prop :=
  (zK z t0 = 11 ∧ F_X10_putNumber t0 x1 z (fun z_36 => P z_36))
theorem T_X10_corner_34  {t0 : Nat} {x1 : Int} {z : Z} {P : Z → Prop} (r_x1 : R32 x1) (hw : Wz z)   (H : F_X10_corner_34 t0 x1 z P) : J mX10_corner 3 0 0 (nx (QZV P)) 34 [some (vr (some t0)), some (ii (x1)), none, none] [] (cz z) := by
  unfold F_X10_corner_34 at H
  refine j_aload_n (dk dt_X10_corner 21 rfl) rfl ?_
  refine j_iload_n (dk dt_X10_corner 22 rfl) rfl ?_
  obtain ⟨k_36, H⟩ := H
  refine jz_callV1 (dk dt_X10_corner 23 rfl) vl_X10_180 rfl (T_X10_putNumber r_x1 hw H) k_36 rfl (by decide) (Nat.zero_le _) (Nat.zero_le _) (Nat.le_of_ble_eq_true rfl) (fun v_36 h_36 P_36 => ?_)
  obtain ⟨z_36, rfl, rfl, w_36, H⟩ := P_36
  dsimp only [rs]
  exact j_return (dk dt_X10_corner 24 rfl) rfl ⟨_, rfl, rfl, w_36, H⟩
def F_X10_corner_12  (t0 : Nat) (x1 : Int) (x2 : Int) (x3 : Int) (z : Z) (P : Z → Prop) : Prop :=
  (zK z t0 = 11 ∧ F_X10_put t0 (w32 ((w32 (65 + x2)) - 1)) z (fun z_19 => (if bAnd x3 1 = 0 then F_X10_corner_34 t0 x1 z_19 P else (zK z_19 t0 = 11 ∧ F_X10_put t0 36 z_19 (fun z_31 => F_X10_corner_34 t0 x1 z_31 P)))))
theorem T_X10_corner_12  {t0 : Nat} {x1 : Int} {x2 : Int} {x3 : Int} {z : Z} {P : Z → Prop} (r_x1 : R32 x1) (r_x2 : R32 x2) (r_x3 : R32 x3) (hw : Wz z)   (H : F_X10_corner_12 t0 x1 x2 x3 z P) : J mX10_corner 3 0 0 (nx (QZV P)) 12 [some (vr (some t0)), some (ii (x1)), some (ii (x2)), some (ii (x3))] [] (cz z) := by
  unfold F_X10_corner_12 at H
  refine j_aload_n (dk dt_X10_corner 7 rfl) rfl ?_
  refine j_bipush (v := Int32.ofInt 65) (dk dt_X10_corner 8 rfl) (by decide) ?_
  refine j_iload_n (dk dt_X10_corner 9 rfl) rfl ?_
  refine jz_iadd (dk dt_X10_corner 10 rfl) ?_
  refine j_iconst (v := Int32.ofInt 1) (dk dt_X10_corner 11 rfl) (by decide) ?_
  refine jz_isub (dk dt_X10_corner 12 rfl) ?_
  obtain ⟨k_19, H⟩ := H
  refine jz_callV1 (dk dt_X10_corner 13 rfl) vl_X10_53 rfl (T_X10_put (r32_w _) hw H) k_19 rfl (by decide) (Nat.zero_le _) (Nat.zero_le _) (Nat.le_of_ble_eq_true rfl) (fun v_19 h_19 P_19 => ?_)
  obtain ⟨z_19, rfl, rfl, w_19, H⟩ := P_19
  dsimp only [rs]
  refine j_iload_n (dk dt_X10_corner 14 rfl) rfl ?_
  refine j_iconst (v := Int32.ofInt 1) (dk dt_X10_corner 15 rfl) (by decide) ?_
  refine jz_iand (dk dt_X10_corner 16 rfl) ?_
  refine jz_if_eq 34 (dk dt_X10_corner 17 rfl) (by decide) (r32_t _) H (fun H => ?_) (fun H => ?_)
  · exact j_el (T_X10_corner_34 r_x1 w_19   H) (And.intro rfl (And.intro rfl trivial))
  · refine j_aload_n (dk dt_X10_corner 18 rfl) rfl ?_
    refine j_bipush (v := Int32.ofInt 36) (dk dt_X10_corner 19 rfl) (by decide) ?_
    obtain ⟨k_31, H⟩ := H
    refine jz_callV1 (dk dt_X10_corner 20 rfl) vl_X10_53 rfl (T_X10_put (by decide) w_19 H) k_31 rfl (by decide) (Nat.zero_le _) (Nat.zero_le _) (Nat.le_of_ble_eq_true rfl) (fun v_31 h_31 P_31 => ?_)
    obtain ⟨z_31, rfl, rfl, w_31, H⟩ := P_31
    dsimp only [rs]
    exact j_el (T_X10_corner_34 r_x1 w_31   H) (And.intro rfl (And.intro rfl trivial))
def F_X10_corner  (t0 : Nat) (x1 : Int) (x2 : Int) (x3 : Int) (z : Z) (P : Z → Prop) : Prop :=
  (if bAnd x3 2 = 0 then F_X10_corner_12 t0 x1 x2 x3 z P else (zK z t0 = 11 ∧ F_X10_put t0 36 z (fun z_9 => F_X10_corner_12 t0 x1 x2 x3 z_9 P)))
theorem T_X10_corner  {t0 : Nat} {x1 : Int} {x2 : Int} {x3 : Int} {z : Z} {P : Z → Prop} (r_x1 : R32 x1) (r_x2 : R32 x2) (r_x3 : R32 x3) (hw : Wz z)  (H : F_X10_corner t0 x1 x2 x3 z P) : Con mX10_corner 3 0 0 [vr (some t0), ii (x1), ii (x2), ii (x3)] (cz z) (QZV P) := by
  refine con_of rfl (Nat.le_of_ble_eq_true rfl) (by decide) ?_
  show J mX10_corner 3 0 0 _ 0 [some (vr (some t0)), some (ii (x1)), some (ii (x2)), some (ii (x3))] [] (cz z)
  unfold F_X10_corner at H
  refine j_iload_n (dk dt_X10_corner 0 rfl) rfl ?_
  refine j_iconst (v := Int32.ofInt 2) (dk dt_X10_corner 1 rfl) (by decide) ?_
  refine jz_iand (dk dt_X10_corner 2 rfl) ?_
  refine jz_if_eq 12 (dk dt_X10_corner 3 rfl) (by decide) (r32_t _) H (fun H => ?_) (fun H => ?_)
  · exact j_el (T_X10_corner_12 r_x1 r_x2 r_x3 hw   H) (And.intro rfl (And.intro rfl (And.intro rfl (And.intro rfl trivial))))
  · refine j_aload_n (dk dt_X10_corner 4 rfl) rfl ?_
    refine j_bipush (v := Int32.ofInt 36) (dk dt_X10_corner 5 rfl) (by decide) ?_
    obtain ⟨k_9, H⟩ := H
    refine jz_callV1 (dk dt_X10_corner 6 rfl) vl_X10_53 rfl (T_X10_put (by decide) hw H) k_9 rfl (by decide) (Nat.zero_le _) (Nat.zero_le _) (Nat.le_of_ble_eq_true rfl) (fun v_9 h_9 P_9 => ?_)
    obtain ⟨z_9, rfl, rfl, w_9, H⟩ := P_9
    dsimp only [rs]
    exact j_el (T_X10_corner_12 r_x1 r_x2 r_x3 w_9   H) (And.intro rfl (And.intro rfl (And.intro rfl (And.intro rfl trivial))))
def F_X10_putWord_41  (t0 : Nat) (x1 : Nat) (x2 : Int) (x3 : Int) (x4 : Int) (z : Z) (P : (Int × Z) ⊕ ((Z)) → Prop) : Prop :=
  P (.inl (w32 (x4 + 1), z))
theorem T_X10_putWord_41  {t0 : Nat} {x1 : Nat} {x2 : Int} {x3 : Int} {x4 : Int} {z : Z} {P : (Int × Z) ⊕ ((Z)) → Prop} {post : Option Sv ⊕ String → Hp → Prop} (r_x2 : R32 x2) (r_x3 : R32 x3) (r_x4 : R32 x4) (hw : Wz z)  (hl : ∀ (x4 : Int) (z : Z), P (.inl (x4, z)) → Wz z → R32 x4 → J mX10_putWord 7 0 0 post 3 [some (vr (some t0)), some (vs (x1)), some (ii (x2)), some (ii (x3)), some (ii (x4))] [] (cz z)) (he0 : ∀ (z : Z), P (.inr z) → Wz z → J mX10_putWord 7 0 0 post 47 [none, none, none, none, none] [] (cz z)) (H : F_X10_putWord_41 t0 x1 x2 x3 x4 z P) : J mX10_putWord 7 0 0 (post) 41 [some (vr (some t0)), some (vs (x1)), some (ii (x2)), some (ii (x3)), some (ii (x4))] [] (cz z) := by
  unfold F_X10_putWord_41 at H
  refine jz_iinc (dk dt_X10_putWord 21 rfl) rfl ?_
  refine j_goto 3 (dk dt_X10_putWord 22 rfl) (by decide) ?_
  exact j_el (hl _ _ H hw (r32_w _)) (And.intro rfl (And.intro rfl (And.intro rfl (And.intro rfl (And.intro rfl trivial)))))
def L_X10_putWord_3  (t0 : Nat) (x1 : Nat) (x2 : Int) (x3 : Int) (x4 : Int) (z : Z) (P : (Int × Z) ⊕ ((Z)) → Prop) : Prop :=
  (if w32 (x2 + x3) ≤ x4 then P (.inr z) else (x1 < 44 ∧ (if sLen x1 ≤ x4 then P (.inr z) else (x1 < 44 ∧ (0 ≤ x4 ∧ x4 < sLen x1 ∧ (if sCh x1 x4 = 32 then F_X10_putWord_41 t0 x1 x2 x3 x4 z P else (x1 < 44 ∧ (0 ≤ x4 ∧ x4 < sLen x1 ∧ (zK z t0 = 11 ∧ F_X10_put t0 (sCh x1 x4) z (fun z_38 => F_X10_putWord_41 t0 x1 x2 x3 x4 z_38 P))))))))))
theorem U_X10_putWord_3  {t0 : Nat} {x1 : Nat} {x2 : Int} {x3 : Int} {x4 : Int} {z : Z} {P : (Int × Z) ⊕ ((Z)) → Prop} {post : Option Sv ⊕ String → Hp → Prop} (r_x2 : R32 x2) (r_x3 : R32 x3) (r_x4 : R32 x4) (hw : Wz z)  (hl : ∀ (x4 : Int) (z : Z), P (.inl (x4, z)) → Wz z → R32 x4 → J mX10_putWord 7 0 0 post 3 [some (vr (some t0)), some (vs (x1)), some (ii (x2)), some (ii (x3)), some (ii (x4))] [] (cz z)) (he0 : ∀ (z : Z), P (.inr z) → Wz z → J mX10_putWord 7 0 0 post 47 [none, none, none, none, none] [] (cz z)) (H : L_X10_putWord_3 t0 x1 x2 x3 x4 z P) : J mX10_putWord 7 0 0 post 3 [some (vr (some t0)), some (vs (x1)), some (ii (x2)), some (ii (x3)), some (ii (x4))] [] (cz z) := by
  unfold L_X10_putWord_3 at H
  refine j_iload (dk dt_X10_putWord 2 rfl) rfl ?_
  refine j_iload_n (dk dt_X10_putWord 3 rfl) rfl ?_
  refine j_iload_n (dk dt_X10_putWord 4 rfl) rfl ?_
  refine jz_iadd (dk dt_X10_putWord 5 rfl) ?_
  refine jz_icmp_ge 47 (dk dt_X10_putWord 6 rfl) (by decide) r_x4 (r32_w _) H (fun H => ?_) (fun H => ?_)
  · exact j_el (he0 _ H hw) trivial
  · refine j_iload (dk dt_X10_putWord 7 rfl) rfl ?_
    refine j_aloadS_n (dk dt_X10_putWord 8 rfl) rfl ?_
    obtain ⟨l_14, H⟩ := H
    refine jz_slength (dk dt_X10_putWord 9 rfl) sv_X10_131 l_14 (by decide) (Nat.le_of_ble_eq_true rfl) ?_
    refine jz_icmp_ge 47 (dk dt_X10_putWord 10 rfl) (by decide) r_x4 (r32_sLen _) H (fun H => ?_) (fun H => ?_)
    · exact j_el (he0 _ H hw) trivial
    · refine j_aloadS_n (dk dt_X10_putWord 11 rfl) rfl ?_
      refine j_iload (dk dt_X10_putWord 12 rfl) rfl ?_
      obtain ⟨l_23, H⟩ := H
      obtain ⟨p_23, q_23, H⟩ := H
      refine jz_scharAt (dk dt_X10_putWord 13 rfl) sv_X10_136 l_23 p_23 q_23 (by decide) (Nat.le_of_ble_eq_true rfl) ?_
      refine j_bipush (v := Int32.ofInt 32) (dk dt_X10_putWord 14 rfl) (by decide) ?_
      refine jz_icmp_eq 41 (dk dt_X10_putWord 15 rfl) (by decide) (r32_sCh _ _) (by decide) H (fun H => ?_) (fun H => ?_)
      · exact j_el (T_X10_putWord_41 r_x2 r_x3 r_x4 hw  hl he0 H) (And.intro rfl (And.intro rfl (And.intro rfl (And.intro rfl (And.intro rfl trivial)))))
      · refine j_aload_n (dk dt_X10_putWord 16 rfl) rfl ?_
        refine j_aloadS_n (dk dt_X10_putWord 17 rfl) rfl ?_
        refine j_iload (dk dt_X10_putWord 18 rfl) rfl ?_
        obtain ⟨l_35, H⟩ := H
        obtain ⟨p_35, q_35, H⟩ := H
        refine jz_scharAt (dk dt_X10_putWord 19 rfl) sv_X10_136 l_35 p_35 q_35 (by decide) (Nat.le_of_ble_eq_true rfl) ?_
        obtain ⟨k_38, H⟩ := H
        refine jz_callV1 (dk dt_X10_putWord 20 rfl) vl_X10_53 rfl (T_X10_put (r32_sCh _ _) hw H) k_38 rfl (by decide) (Nat.zero_le _) (Nat.zero_le _) (Nat.le_of_ble_eq_true rfl) (fun v_38 h_38 P_38 => ?_)
        obtain ⟨z_38, rfl, rfl, w_38, H⟩ := P_38
        dsimp only [rs]
        exact j_el (T_X10_putWord_41 r_x2 r_x3 r_x4 w_38  hl he0 H) (And.intro rfl (And.intro rfl (And.intro rfl (And.intro rfl (And.intro rfl trivial)))))
def F_X10_putWord_47  (z : Z) (P : Z → Prop) : Prop :=
  P z
theorem T_X10_putWord_47  {z : Z} {P : Z → Prop}  (hw : Wz z)   (H : F_X10_putWord_47 z P) : J mX10_putWord 7 0 0 (nx (QZV P)) 47 [none, none, none, none, none] [] (cz z) := by
  unfold F_X10_putWord_47 at H
  exact j_return (dk dt_X10_putWord 23 rfl) rfl ⟨_, rfl, rfl, hw, H⟩
def F_X10_putWord_3  (t0 : Nat) (x1 : Nat) (x2 : Int) (x3 : Int) (x4 : Int) (z : Z) (P : Z → Prop) : Prop :=
  lp (S := Int × Z) (E := (Z)) (fun q P_ => L_X10_putWord_3 t0 x1 x2 x3 q.1 q.2 P_) (x4, z) (fun (z : Z) => F_X10_putWord_47 z P)
theorem T_X10_putWord_3  {t0 : Nat} {x1 : Nat} {x2 : Int} {x3 : Int} {x4 : Int} {z : Z} {P : Z → Prop} (r_x2 : R32 x2) (r_x3 : R32 x3) (r_x4 : R32 x4) (hw : Wz z)   (H : F_X10_putWord_3 t0 x1 x2 x3 x4 z P) : J mX10_putWord 7 0 0 (nx (QZV P)) 3 [some (vr (some t0)), some (vs (x1)), some (ii (x2)), some (ii (x3)), some (ii (x4))] [] (cz z) := by
  unfold F_X10_putWord_3 at H
  refine lp_J (G := fun q => Wz (q.2) → R32 (q.1) → J mX10_putWord 7 0 0 (nx (QZV P)) 3 [some (vr (some t0)), some (vs (x1)), some (ii (x2)), some (ii (x3)), some (ii ((q.1)))] [] (cz (q.2))) (fun q P_ hl_ he_ Hb => ?_) (x4, z) H hw r_x4
  obtain ⟨x4, z⟩ := q
  intro hw r_x4
  refine U_X10_putWord_3 (P := P_) r_x2 r_x3 r_x4 hw  (fun x4 z Hp hw r_x4 => hl_ (x4, z) Hp hw r_x4) ?_ Hb
  · intro z Hp hw
    have H := he_ _ Hp
    exact j_el (T_X10_putWord_47  hw   H) trivial
def F_X10_putWord  (t0 : Nat) (x1 : Nat) (x2 : Int) (x3 : Int) (z : Z) (P : Z → Prop) : Prop :=
  F_X10_putWord_3 t0 x1 x2 x3 x2 z P
theorem T_X10_putWord  {t0 : Nat} {x1 : Nat} {x2 : Int} {x3 : Int} {z : Z} {P : Z → Prop} (r_x2 : R32 x2) (r_x3 : R32 x3) (hw : Wz z)  (H : F_X10_putWord t0 x1 x2 x3 z P) : Con mX10_putWord 7 0 0 [vr (some t0), vs (x1), ii (x2), ii (x3)] (cz z) (QZV P) := by
  refine con_of rfl (Nat.le_of_ble_eq_true rfl) (by decide) ?_
  show J mX10_putWord 7 0 0 _ 0 [some (vr (some t0)), some (vs (x1)), some (ii (x2)), some (ii (x3)), none] [] (cz z)
  unfold F_X10_putWord at H
  refine j_iload_n (dk dt_X10_putWord 0 rfl) rfl ?_
  refine j_istore (dk dt_X10_putWord 1 rfl) (by decide) ?_
  exact j_el (T_X10_putWord_3 r_x2 r_x3 r_x2 hw   H) (And.intro rfl (And.intro rfl (And.intro rfl (And.intro rfl (And.intro rfl trivial)))))
def F_X10_putReference  (t0 : Nat) (z : Z) (P : Z → Prop) : Prop :=
  (zK z t0 = 11 ∧ F_X10_putWord t0 2 0 4 z (fun z_5 => P z_5))
theorem T_X10_putReference  {t0 : Nat} {z : Z} {P : Z → Prop}  (hw : Wz z)  (H : F_X10_putReference t0 z P) : Con mX10_putReference 8 0 0 [vr (some t0)] (cz z) (QZV P) := by
  refine con_of rfl (Nat.le_of_ble_eq_true rfl) (by decide) ?_
  show J mX10_putReference 8 0 0 _ 0 [some (vr (some t0))] [] (cz z)
  unfold F_X10_putReference at H
  refine j_aload_n (dk dt_X10_putReference 0 rfl) rfl ?_
  refine j_ldcS 2 rfl (dk dt_X10_putReference 1 rfl) rfl rfl ?_
  refine j_iconst (v := Int32.ofInt 0) (dk dt_X10_putReference 2 rfl) (by decide) ?_
  refine j_iconst (v := Int32.ofInt 4) (dk dt_X10_putReference 3 rfl) (by decide) ?_
  obtain ⟨k_5, H⟩ := H
  refine jz_callV3 (dk dt_X10_putReference 4 rfl) vl_X10_123 rfl (T_X10_putWord (by decide) (by decide) hw H) k_5 rfl (by decide) (Nat.zero_le _) (Nat.zero_le _) (Nat.le_of_ble_eq_true rfl) (fun v_5 h_5 P_5 => ?_)
  obtain ⟨z_5, rfl, rfl, w_5, H⟩ := P_5
  dsimp only [rs]
  exact j_return (dk dt_X10_putReference 5 rfl) rfl ⟨_, rfl, rfl, w_5, H⟩
def F_X2_at_22  (s0 : Option Nat) (z : Z) (P : Option Nat → Prop) : Prop :=
  P s0
theorem T_X2_at_22  {s0 : Option Nat} {z : Z} {P : Option Nat → Prop}  (hw : Wz z)   (H : F_X2_at_22 s0 z P) : J mX2_at 1 0 0 (nx (QPA (cz z) P)) 22 [none, none] [vr (s0)] (cz z) := by
  unfold F_X2_at_22 at H
  exact j_areturn (dk dt_X2_at 12 rfl) rfl rfl ⟨_, rfl, rfl, H⟩
def F_X2_at_21  (z : Z) (P : Option Nat → Prop) : Prop :=
  F_X2_at_22 none z P
theorem T_X2_at_21  {z : Z} {P : Option Nat → Prop}  (hw : Wz z)   (H : F_X2_at_21 z P) : J mX2_at 1 0 0 (nx (QPA (cz z) P)) 21 [none, none] [] (cz z) := by
  unfold F_X2_at_21 at H
  refine j_null (dk dt_X2_at 11 rfl) ?_
  exact j_el (T_X2_at_22  hw   H) trivial
def F_X2_at  (t0 : Nat) (x1 : Int) (z : Z) (P : Option Nat → Prop) : Prop :=
  (if x1 < 0 then F_X2_at_21 z P else (zK z t0 = 3 ∧ (if zI z t0 4 ≤ x1 then F_X2_at_21 z P else (∃ a_17, zO z t0 0 = some a_17 ∧ zK z a_17 = 21 ∧ (0 ≤ x1 ∧ x1 < zN z a_17 ∧ F_X2_at_22 (zO z a_17 x1) z P)))))
theorem T_X2_at  {t0 : Nat} {x1 : Int} {z : Z} {P : Option Nat → Prop} (r_x1 : R32 x1) (hw : Wz z)  (H : F_X2_at t0 x1 z P) : Con mX2_at 1 0 0 [vr (some t0), ii (x1)] (cz z) (QPA (cz z) P) := by
  refine con_of rfl (Nat.le_of_ble_eq_true rfl) (by decide) ?_
  show J mX2_at 1 0 0 _ 0 [some (vr (some t0)), some (ii (x1))] [] (cz z)
  unfold F_X2_at at H
  refine j_iload_n (dk dt_X2_at 0 rfl) rfl ?_
  refine jz_if_lt 21 (dk dt_X2_at 1 rfl) (by decide) r_x1 H (fun H => ?_) (fun H => ?_)
  · exact j_el (T_X2_at_21  hw   H) trivial
  · refine j_iload_n (dk dt_X2_at 2 rfl) rfl ?_
    refine j_aload_n (dk dt_X2_at 3 rfl) rfl ?_
    obtain ⟨k_6, H⟩ := H
    refine jz_getI (kz := 4) (dk dt_X2_at 4 rfl) fl_X2_28 rfl rfl rfl k_6 ?_
    refine jz_icmp_ge 21 (dk dt_X2_at 5 rfl) (by decide) r_x1 (hw.1 _ _) H (fun H => ?_) (fun H => ?_)
    · exact j_el (T_X2_at_21  hw   H) trivial
    · refine j_aload_n (dk dt_X2_at 6 rfl) rfl ?_
      refine jz_getO (kz := 0) (dk dt_X2_at 7 rfl) fl_X2_11 rfl rfl rfl k_6 ?_
      refine j_iload_n (dk dt_X2_at 8 rfl) rfl ?_
      obtain ⟨a_17, e_17, k_17, H⟩ := H
      obtain ⟨p_17, q_17, H⟩ := H
      refine jz_aald (t := 7) (dk dt_X2_at 9 rfl) e_17 k_17 (by decide) (by decide) p_17 q_17 hw ?_
      refine j_goto 22 (dk dt_X2_at 10 rfl) (by decide) ?_
      exact j_el (T_X2_at_22  hw   H) trivial
def L_X6_placeOf_19  (x2 : Int) (x3 : Option Nat) (x4 : Int) (z : Z) (P : Int ⊕ ((Unit) ⊕ (Int)) → Prop) : Prop :=
  (∃ a_22, x3 = some a_22 ∧ zK z a_22 = 15 ∧ (if zN z a_22 ≤ x4 then P (.inr (.inl ())) else (0 ≤ x4 ∧ x4 < zN z a_22 ∧ (if zI z a_22 x4 = x2 then P (.inr (.inr x4)) else P (.inl (w32 (x4 + 1)))))))
theorem U_X6_placeOf_19  {x2 : Int} {x3 : Option Nat} {x4 : Int} {z : Z} {P : Int ⊕ ((Unit) ⊕ (Int)) → Prop} {post : Option Sv ⊕ String → Hp → Prop} (r_x2 : R32 x2) (r_x4 : R32 x4) (hw : Wz z)  (hl : ∀ (x4 : Int), P (.inl x4) → R32 x4 → J mX6_placeOf 1 0 0 post 19 [none, none, some (ii (x2)), some (vr (x3)), some (ii (x4))] [] (cz z)) (he0 : P (.inr (.inl ())) → J mX6_placeOf 1 0 0 post 45 [none, none, none, none, none] [] (cz z)) (he1 : ∀ (x4 : Int), P (.inr (.inr x4)) → R32 x4 → J mX6_placeOf 1 0 0 post 34 [none, none, none, none, some (ii (x4))] [] (cz z)) (H : L_X6_placeOf_19 x2 x3 x4 z P) : J mX6_placeOf 1 0 0 post 19 [none, none, some (ii (x2)), some (vr (x3)), some (ii (x4))] [] (cz z) := by
  unfold L_X6_placeOf_19 at H
  refine j_iload (dk dt_X6_placeOf 10 rfl) rfl ?_
  refine j_aload_n (dk dt_X6_placeOf 11 rfl) rfl ?_
  obtain ⟨a_22, e_22, k_22, H⟩ := H
  refine jz_alen (t := 1) (dk dt_X6_placeOf 12 rfl) e_22 k_22 (by decide) hw ?_
  refine jz_icmp_ge 45 (dk dt_X6_placeOf 13 rfl) (by decide) r_x4 (r32_len hw _) H (fun H => ?_) (fun H => ?_)
  · exact j_el (he0  H ) trivial
  · refine j_aload_n (dk dt_X6_placeOf 14 rfl) rfl ?_
    refine j_iload (dk dt_X6_placeOf 15 rfl) rfl ?_
    obtain ⟨p_29, q_29, H⟩ := H
    refine jz_iald (dk dt_X6_placeOf 16 rfl) e_22 k_22 p_29 q_29 hw ?_
    refine j_iload_n (dk dt_X6_placeOf 17 rfl) rfl ?_
    refine jz_icmp_ne 39 (dk dt_X6_placeOf 18 rfl) (by decide) (hw.1 _ _) r_x2 H (fun H => ?_) (fun H => ?_)
    · exact j_el (he1 _ H r_x4) (And.intro rfl trivial)
    · refine jz_iinc (dk dt_X6_placeOf 23 rfl) rfl ?_
      refine j_goto 19 (dk dt_X6_placeOf 24 rfl) (by decide) ?_
      exact j_el (hl _ H (r32_w _)) (And.intro rfl (And.intro rfl (And.intro rfl trivial)))
def F_X6_placeOf_19  (x2 : Int) (x3 : Option Nat) (x4 : Int) (z : Z) (P : Int → Prop) : Prop :=
  lp (S := Int) (E := (Unit) ⊕ (Int)) (fun q P_ => L_X6_placeOf_19 x2 x3 q z P_) x4 (fun e => match e with | (.inl _) => P 0 | (.inr x4) => P (w32 (x4 + 1)))
theorem T_X6_placeOf_19  {x2 : Int} {x3 : Option Nat} {x4 : Int} {z : Z} {P : Int → Prop} (r_x2 : R32 x2) (r_x4 : R32 x4) (hw : Wz z)   (H : F_X6_placeOf_19 x2 x3 x4 z P) : J mX6_placeOf 1 0 0 (nx (QPI (cz z) P)) 19 [none, none, some (ii (x2)), some (vr (x3)), some (ii (x4))] [] (cz z) := by
  unfold F_X6_placeOf_19 at H
  refine lp_J (G := fun q => R32 (q) → J mX6_placeOf 1 0 0 (nx (QPI (cz z) P)) 19 [none, none, some (ii (x2)), some (vr (x3)), some (ii ((q)))] [] (cz z)) (fun x4 P_ hl_ he_ Hb => ?_) x4 H r_x4
  intro r_x4
  refine U_X6_placeOf_19 (P := P_) r_x2 r_x4 hw  (fun x4 Hp r_x4 => hl_ x4 Hp r_x4) ?_ ?_ Hb
  · intro Hp
    have H := he_ _ Hp
    refine j_iconst (v := Int32.ofInt 0) (dk dt_X6_placeOf 25 rfl) (by decide) ?_
    exact j_ireturn (dk dt_X6_placeOf 26 rfl) rfl rfl ⟨_, rfl, (by decide), rfl, H⟩
  · intro x4 Hp r_x4
    have H := he_ _ Hp
    refine j_iload (dk dt_X6_placeOf 19 rfl) rfl ?_
    refine j_iconst (v := Int32.ofInt 1) (dk dt_X6_placeOf 20 rfl) (by decide) ?_
    refine jz_iadd (dk dt_X6_placeOf 21 rfl) ?_
    exact j_ireturn (dk dt_X6_placeOf 22 rfl) rfl rfl ⟨_, rfl, (r32_w _), rfl, H⟩
def F_X6_placeOf_15  (x2 : Int) (s0 : Option Nat) (z : Z) (P : Int → Prop) : Prop :=
  F_X6_placeOf_19 x2 s0 0 z P
theorem T_X6_placeOf_15  {x2 : Int} {s0 : Option Nat} {z : Z} {P : Int → Prop} (r_x2 : R32 x2) (hw : Wz z)   (H : F_X6_placeOf_15 x2 s0 z P) : J mX6_placeOf 1 0 0 (nx (QPI (cz z) P)) 15 [none, none, some (ii (x2)), none, none] [vr (s0)] (cz z) := by
  unfold F_X6_placeOf_15 at H
  refine j_astore_n (dk dt_X6_placeOf 7 rfl) (by decide) ?_
  refine j_iconst (v := Int32.ofInt 0) (dk dt_X6_placeOf 8 rfl) (by decide) ?_
  refine j_istore (dk dt_X6_placeOf 9 rfl) (by decide) ?_
  exact j_el (T_X6_placeOf_19 r_x2 (by decide) hw   H) (And.intro rfl (And.intro rfl (And.intro rfl trivial)))
def F_X6_placeOf  (t0 : Nat) (x1 : Int) (x2 : Int) (z : Z) (P : Int → Prop) : Prop :=
  (if x1 = 0 then (zK z t0 = 7 ∧ F_X6_placeOf_15 x2 (zO z t0 0) z P) else (zK z t0 = 7 ∧ F_X6_placeOf_15 x2 (zO z t0 1) z P))
theorem T_X6_placeOf  {t0 : Nat} {x1 : Int} {x2 : Int} {z : Z} {P : Int → Prop} (r_x1 : R32 x1) (r_x2 : R32 x2) (hw : Wz z)  (H : F_X6_placeOf t0 x1 x2 z P) : Con mX6_placeOf 1 0 0 [vr (some t0), ii (x1), ii (x2)] (cz z) (QPI (cz z) P) := by
  refine con_of rfl (Nat.le_of_ble_eq_true rfl) (by decide) ?_
  show J mX6_placeOf 1 0 0 _ 0 [some (vr (some t0)), some (ii (x1)), some (ii (x2)), none, none] [] (cz z)
  unfold F_X6_placeOf at H
  refine j_iload_n (dk dt_X6_placeOf 0 rfl) rfl ?_
  refine jz_if_ne 11 (dk dt_X6_placeOf 1 rfl) (by decide) r_x1 H (fun H => ?_) (fun H => ?_)
  · refine j_aload_n (dk dt_X6_placeOf 2 rfl) rfl ?_
    obtain ⟨k_5, H⟩ := H
    refine jz_getO (kz := 0) (dk dt_X6_placeOf 3 rfl) fl_X6_9 rfl rfl rfl k_5 ?_
    refine j_goto 15 (dk dt_X6_placeOf 4 rfl) (by decide) ?_
    exact j_el (T_X6_placeOf_15 r_x2 hw   H) (And.intro rfl trivial)
  · refine j_aload_n (dk dt_X6_placeOf 5 rfl) rfl ?_
    obtain ⟨k_12, H⟩ := H
    refine jz_getO (kz := 1) (dk dt_X6_placeOf 6 rfl) fl_X6_15 rfl rfl rfl k_12 ?_
    exact j_el (T_X6_placeOf_15 r_x2 hw   H) (And.intro rfl trivial)
def F_X6_knows_23  (s0 : Int) (z : Z) (P : Int → Prop) : Prop :=
  (Z1 s0 ∧ P s0)
theorem T_X6_knows_23  {s0 : Int} {z : Z} {P : Int → Prop} (r_s0 : R32 s0) (hw : Wz z)   (H : F_X6_knows_23 s0 z P) : J mX6_knows 2 0 0 (nx (QPI (cz z) P)) 23 [none, none, none] [ii (s0)] (cz z) := by
  unfold F_X6_knows_23 at H
  obtain ⟨hz_, H⟩ := H
  exact j_ireturn (dk dt_X6_knows 13 rfl) rfl (nar_z hz_) ⟨_, rfl, r_s0, rfl, H⟩
def F_X6_knows_22  (z : Z) (P : Int → Prop) : Prop :=
  F_X6_knows_23 0 z P
theorem T_X6_knows_22  {z : Z} {P : Int → Prop}  (hw : Wz z)   (H : F_X6_knows_22 z P) : J mX6_knows 2 0 0 (nx (QPI (cz z) P)) 22 [none, none, none] [] (cz z) := by
  unfold F_X6_knows_22 at H
  refine j_iconst (v := Int32.ofInt 0) (dk dt_X6_knows 12 rfl) (by decide) ?_
  exact j_el (T_X6_knows_23 (by decide) hw   H) trivial
def F_X6_knows  (t0 : Nat) (x1 : Int) (x2 : Int) (z : Z) (P : Int → Prop) : Prop :=
  (zK z t0 = 7 ∧ F_X6_placeOf t0 0 x1 z (fun x_3 => (if x_3 ≤ 0 then F_X6_knows_22 z P else F_X6_placeOf t0 1 x2 z (fun x_12 => (if x_12 ≤ 0 then F_X6_knows_22 z P else F_X6_knows_23 1 z P)))))
theorem T_X6_knows  {t0 : Nat} {x1 : Int} {x2 : Int} {z : Z} {P : Int → Prop} (r_x1 : R32 x1) (r_x2 : R32 x2) (hw : Wz z)  (H : F_X6_knows t0 x1 x2 z P) : Con mX6_knows 2 0 0 [vr (some t0), ii (x1), ii (x2)] (cz z) (QPI (cz z) P) := by
  refine con_of rfl (Nat.le_of_ble_eq_true rfl) (by decide) ?_
  show J mX6_knows 2 0 0 _ 0 [some (vr (some t0)), some (ii (x1)), some (ii (x2))] [] (cz z)
  unfold F_X6_knows at H
  refine j_aload_n (dk dt_X6_knows 0 rfl) rfl ?_
  refine j_iconst (v := Int32.ofInt 0) (dk dt_X6_knows 1 rfl) (by decide) ?_
  refine j_iload_n (dk dt_X6_knows 2 rfl) rfl ?_
  obtain ⟨k_3, H⟩ := H
  refine jz_callV2 (dk dt_X6_knows 3 rfl) vl_X6_28 rfl (T_X6_placeOf (by decide) r_x1 hw H) k_3 rfl (by decide) (Nat.zero_le _) (Nat.zero_le _) (Nat.le_of_ble_eq_true rfl) (fun v_3 h_3 P_3 => ?_)
  obtain ⟨x_3, rfl, r_3, rfl, H⟩ := P_3
  dsimp only [rs]
  refine jz_if_le 22 (dk dt_X6_knows 4 rfl) (by decide) r_3 H (fun H => ?_) (fun H => ?_)
  · exact j_el (T_X6_knows_22  hw   H) trivial
  · refine j_aload_n (dk dt_X6_knows 5 rfl) rfl ?_
    refine j_iconst (v := Int32.ofInt 1) (dk dt_X6_knows 6 rfl) (by decide) ?_
    refine j_iload_n (dk dt_X6_knows 7 rfl) rfl ?_
    refine jz_callV2 (dk dt_X6_knows 8 rfl) vl_X6_28 rfl (T_X6_placeOf (by decide) r_x2 hw H) k_3 rfl (by decide) (Nat.zero_le _) (Nat.zero_le _) (Nat.le_of_ble_eq_true rfl) (fun v_12 h_12 P_12 => ?_)
    obtain ⟨x_12, rfl, r_12, rfl, H⟩ := P_12
    dsimp only [rs]
    refine jz_if_le 22 (dk dt_X6_knows 9 rfl) (by decide) r_12 H (fun H => ?_) (fun H => ?_)
    · exact j_el (T_X6_knows_22  hw   H) trivial
    · refine j_iconst (v := Int32.ofInt 1) (dk dt_X6_knows 10 rfl) (by decide) ?_
      refine j_goto 23 (dk dt_X6_knows 11 rfl) (by decide) ?_
      exact j_el (T_X6_knows_23 (by decide) hw   H) trivial
