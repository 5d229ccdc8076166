def F_X5_stands_179  (s0 : Int) (P : Int → Prop) : Prop :=
  (Z1 s0 ∧ P s0)
theorem T_X5_stands_179  {s0 : Int} {P : Int → Prop} {h : Hp} (r_s0 : R32 s0)    (H : F_X5_stands_179 s0 P) : J mX5_stands 1 0 0 (nx (QPI h P)) 179 [none, none, none] [ii (s0)] h := by
  unfold F_X5_stands_179 at H
  obtain ⟨hz_, H⟩ := H
  exact j_ireturn (dk dt_X5_stands 59 rfl) rfl (nar_z hz_) ⟨_, rfl, r_s0, rfl, H⟩
def F_X5_stands_101  (s0 : Int) (P : Int → Prop) : Prop :=
  (Z1 s0 ∧ P s0)
theorem T_X5_stands_101  {s0 : Int} {P : Int → Prop} {h : Hp} (r_s0 : R32 s0)    (H : F_X5_stands_101 s0 P) : J mX5_stands 1 0 0 (nx (QPI h P)) 101 [none, none, none] [ii (s0)] h := by
  unfold F_X5_stands_101 at H
  obtain ⟨hz_, H⟩ := H
  exact j_ireturn (dk dt_X5_stands 13 rfl) rfl (nar_z hz_) ⟨_, rfl, r_s0, rfl, H⟩
def F_X5_stands_96  (P : Int → Prop) : Prop :=
  F_X5_stands_101 1 P
theorem T_X5_stands_96  {P : Int → Prop} {h : Hp}     (H : F_X5_stands_96 P) : J mX5_stands 1 0 0 (nx (QPI h P)) 96 [none, none, none] [] h := by
  unfold F_X5_stands_96 at H
  refine j_iconst (v := Int32.ofInt 1) (dk dt_X5_stands 10 rfl) (by decide) ?_
  refine j_goto 101 (dk dt_X5_stands 11 rfl) (by decide) ?_
  exact j_el (T_X5_stands_101 (by decide)    H) trivial
def F_X5_stands_134  (s0 : Int) (P : Int → Prop) : Prop :=
  (Z1 s0 ∧ P s0)
theorem T_X5_stands_134  {s0 : Int} {P : Int → Prop} {h : Hp} (r_s0 : R32 s0)    (H : F_X5_stands_134 s0 P) : J mX5_stands 1 0 0 (nx (QPI h P)) 134 [none, none, none] [ii (s0)] h := by
  unfold F_X5_stands_134 at H
  obtain ⟨hz_, H⟩ := H
  exact j_ireturn (dk dt_X5_stands 32 rfl) rfl (nar_z hz_) ⟨_, rfl, r_s0, rfl, H⟩
def F_X5_stands_116  (P : Int → Prop) : Prop :=
  F_X5_stands_134 1 P
theorem T_X5_stands_116  {P : Int → Prop} {h : Hp}     (H : F_X5_stands_116 P) : J mX5_stands 1 0 0 (nx (QPI h P)) 116 [none, none, none] [] h := by
  unfold F_X5_stands_116 at H
  refine j_iconst (v := Int32.ofInt 1) (dk dt_X5_stands 22 rfl) (by decide) ?_
  refine j_goto 134 (dk dt_X5_stands 23 rfl) (by decide) ?_
  exact j_el (T_X5_stands_134 (by decide)    H) trivial
def F_X5_stands_168  (s0 : Int) (P : Int → Prop) : Prop :=
  (Z1 s0 ∧ P s0)
theorem T_X5_stands_168  {s0 : Int} {P : Int → Prop} {h : Hp} (r_s0 : R32 s0)    (H : F_X5_stands_168 s0 P) : J mX5_stands 1 0 0 (nx (QPI h P)) 168 [none, none, none] [ii (s0)] h := by
  unfold F_X5_stands_168 at H
  obtain ⟨hz_, H⟩ := H
  exact j_ireturn (dk dt_X5_stands 52 rfl) rfl (nar_z hz_) ⟨_, rfl, r_s0, rfl, H⟩
def F_X5_stands_150  (P : Int → Prop) : Prop :=
  F_X5_stands_168 1 P
theorem T_X5_stands_150  {P : Int → Prop} {h : Hp}     (H : F_X5_stands_150 P) : J mX5_stands 1 0 0 (nx (QPI h P)) 150 [none, none, none] [] h := by
  unfold F_X5_stands_150 at H
  refine j_iconst (v := Int32.ofInt 1) (dk dt_X5_stands 42 rfl) (by decide) ?_
  refine j_goto 168 (dk dt_X5_stands 43 rfl) (by decide) ?_
  exact j_el (T_X5_stands_168 (by decide)    H) trivial
def F_X5_stands  (x0 : Int) (x1 : Int) (x2 : Int) (P : Int → Prop) : Prop :=
  (if x0 = 19 then P 1 else (if x0 = 20 then P 1 else (if x0 = 21 then P 1 else (if x0 = 22 then P 1 else (if x0 = 23 then P 1 else (if x0 = 24 then P 1 else (if x0 = 25 then (if x2 = 3 then F_X5_stands_179 0 P else F_X5_stands_179 1 P) else (if x0 = 26 then (if x2 = 3 then F_X5_stands_179 0 P else F_X5_stands_179 1 P) else (if x0 = 27 then (if x2 = 3 then F_X5_stands_179 0 P else F_X5_stands_179 1 P) else (if x0 = 28 then (if x2 = 3 then F_X5_stands_179 0 P else F_X5_stands_179 1 P) else (if x0 = 29 then (if x2 = 1 then F_X5_stands_96  P else (if x2 = 2 then F_X5_stands_96  P else F_X5_stands_101 0 P)) else (if x0 = 30 then (if x2 = 1 then F_X5_stands_96  P else (if x2 = 2 then F_X5_stands_96  P else F_X5_stands_101 0 P)) else (if x0 = 31 then (if x2 = 3 then F_X5_stands_179 0 P else F_X5_stands_179 1 P) else (if x0 = 32 then (if x2 = 3 then F_X5_stands_179 0 P else F_X5_stands_179 1 P) else (if x0 = 33 then (if x1 = 0 then (if x2 = 3 then F_X5_stands_116  P else (if x2 = 2 then F_X5_stands_116  P else F_X5_stands_134 0 P)) else (if x2 = 3 then F_X5_stands_134 0 P else F_X5_stands_134 1 P)) else (if x0 = 34 then (if x1 = 1 then (if x2 = 3 then F_X5_stands_150  P else (if x2 = 2 then F_X5_stands_150  P else F_X5_stands_168 0 P)) else (if x2 = 3 then F_X5_stands_168 0 P else F_X5_stands_168 1 P)) else (if x0 = 35 then (if x1 = 0 then (if x2 = 3 then F_X5_stands_116  P else (if x2 = 2 then F_X5_stands_116  P else F_X5_stands_134 0 P)) else (if x2 = 3 then F_X5_stands_134 0 P else F_X5_stands_134 1 P)) else (if x2 = 3 then F_X5_stands_179 0 P else F_X5_stands_179 1 P))))))))))))))))))
theorem T_X5_stands  {x0 : Int} {x1 : Int} {x2 : Int} {P : Int → Prop} {h : Hp} (r_x0 : R32 x0) (r_x1 : R32 x1) (r_x2 : R32 x2)   (H : F_X5_stands x0 x1 x2 P) : Con mX5_stands 1 0 0 [ii (x0), ii (x1), ii (x2)] h (QPI h P) := by
  refine con_of rfl (Nat.le_of_ble_eq_true rfl) (by decide) ?_
  show J mX5_stands 1 0 0 _ 0 [some (ii (x0)), some (ii (x1)), some (ii (x2))] [] h
  unfold F_X5_stands at H
  refine j_iload_n (dk dt_X5_stands 0 rfl) rfl ?_
  by_cases y_1_0 : x0 = 19
  · rw [if_pos y_1_0] at H
    refine jz_tabIn 19 84 (dk dt_X5_stands 1 rfl) r_x0 y_1_0 (by decide) (by decide) rfl (by decide) ?_
    refine j_iconst (v := Int32.ofInt 1) (dk dt_X5_stands 2 rfl) (by decide) ?_
    exact j_ireturn (dk dt_X5_stands 3 rfl) rfl (nar_z (by decide)) ⟨_, rfl, (by decide), rfl, H⟩
  rw [if_neg y_1_0] at H
  by_cases y_1_1 : x0 = 20
  · rw [if_pos y_1_1] at H
    refine jz_tabIn 20 84 (dk dt_X5_stands 1 rfl) r_x0 y_1_1 (by decide) (by decide) rfl (by decide) ?_
    refine j_iconst (v := Int32.ofInt 1) (dk dt_X5_stands 2 rfl) (by decide) ?_
    exact j_ireturn (dk dt_X5_stands 3 rfl) rfl (nar_z (by decide)) ⟨_, rfl, (by decide), rfl, H⟩
  rw [if_neg y_1_1] at H
  by_cases y_1_2 : x0 = 21
  · rw [if_pos y_1_2] at H
    refine jz_tabIn 21 84 (dk dt_X5_stands 1 rfl) r_x0 y_1_2 (by decide) (by decide) rfl (by decide) ?_
    refine j_iconst (v := Int32.ofInt 1) (dk dt_X5_stands 2 rfl) (by decide) ?_
    exact j_ireturn (dk dt_X5_stands 3 rfl) rfl (nar_z (by decide)) ⟨_, rfl, (by decide), rfl, H⟩
  rw [if_neg y_1_2] at H
  by_cases y_1_3 : x0 = 22
  · rw [if_pos y_1_3] at H
    refine jz_tabIn 22 84 (dk dt_X5_stands 1 rfl) r_x0 y_1_3 (by decide) (by decide) rfl (by decide) ?_
    refine j_iconst (v := Int32.ofInt 1) (dk dt_X5_stands 2 rfl) (by decide) ?_
    exact j_ireturn (dk dt_X5_stands 3 rfl) rfl (nar_z (by decide)) ⟨_, rfl, (by decide), rfl, H⟩
  rw [if_neg y_1_3] at H
  by_cases y_1_4 : x0 = 23
  · rw [if_pos y_1_4] at H
    refine jz_tabIn 23 84 (dk dt_X5_stands 1 rfl) r_x0 y_1_4 (by decide) (by decide) rfl (by decide) ?_
    refine j_iconst (v := Int32.ofInt 1) (dk dt_X5_stands 2 rfl) (by decide) ?_
    exact j_ireturn (dk dt_X5_stands 3 rfl) rfl (nar_z (by decide)) ⟨_, rfl, (by decide), rfl, H⟩
  rw [if_neg y_1_4] at H
  by_cases y_1_5 : x0 = 24
  · rw [if_pos y_1_5] at H
    refine jz_tabIn 24 84 (dk dt_X5_stands 1 rfl) r_x0 y_1_5 (by decide) (by decide) rfl (by decide) ?_
    refine j_iconst (v := Int32.ofInt 1) (dk dt_X5_stands 2 rfl) (by decide) ?_
    exact j_ireturn (dk dt_X5_stands 3 rfl) rfl (nar_z (by decide)) ⟨_, rfl, (by decide), rfl, H⟩
  rw [if_neg y_1_5] at H
  by_cases y_1_6 : x0 = 25
  · rw [if_pos y_1_6] at H
    refine jz_tabIn 25 169 (dk dt_X5_stands 1 rfl) r_x0 y_1_6 (by decide) (by decide) rfl (by decide) ?_
    refine j_iload_n (dk dt_X5_stands 53 rfl) rfl ?_
    refine j_iconst (v := Int32.ofInt 3) (dk dt_X5_stands 54 rfl) (by decide) ?_
    refine jz_icmp_eq 178 (dk dt_X5_stands 55 rfl) (by decide) r_x2 (by decide) H (fun H => ?_) (fun H => ?_)
    · refine j_iconst (v := Int32.ofInt 0) (dk dt_X5_stands 58 rfl) (by decide) ?_
      exact j_el (T_X5_stands_179 (by decide)    H) trivial
    · refine j_iconst (v := Int32.ofInt 1) (dk dt_X5_stands 56 rfl) (by decide) ?_
      refine j_goto 179 (dk dt_X5_stands 57 rfl) (by decide) ?_
      exact j_el (T_X5_stands_179 (by decide)    H) trivial
  rw [if_neg y_1_6] at H
  by_cases y_1_7 : x0 = 26
  · rw [if_pos y_1_7] at H
    refine jz_tabIn 26 169 (dk dt_X5_stands 1 rfl) r_x0 y_1_7 (by decide) (by decide) rfl (by decide) ?_
    refine j_iload_n (dk dt_X5_stands 53 rfl) rfl ?_
    refine j_iconst (v := Int32.ofInt 3) (dk dt_X5_stands 54 rfl) (by decide) ?_
    refine jz_icmp_eq 178 (dk dt_X5_stands 55 rfl) (by decide) r_x2 (by decide) H (fun H => ?_) (fun H => ?_)
    · refine j_iconst (v := Int32.ofInt 0) (dk dt_X5_stands 58 rfl) (by decide) ?_
      exact j_el (T_X5_stands_179 (by decide)    H) trivial
    · refine j_iconst (v := Int32.ofInt 1) (dk dt_X5_stands 56 rfl) (by decide) ?_
      refine j_goto 179 (dk dt_X5_stands 57 rfl) (by decide) ?_
      exact j_el (T_X5_stands_179 (by decide)    H) trivial
  rw [if_neg y_1_7] at H
  by_cases y_1_8 : x0 = 27
  · rw [if_pos y_1_8] at H
    refine jz_tabIn 27 169 (dk dt_X5_stands 1 rfl) r_x0 y_1_8 (by decide) (by decide) rfl (by decide) ?_
    refine j_iload_n (dk dt_X5_stands 53 rfl) rfl ?_
    refine j_iconst (v := Int32.ofInt 3) (dk dt_X5_stands 54 rfl) (by decide) ?_
    refine jz_icmp_eq 178 (dk dt_X5_stands 55 rfl) (by decide) r_x2 (by decide) H (fun H => ?_) (fun H => ?_)
    · refine j_iconst (v := Int32.ofInt 0) (dk dt_X5_stands 58 rfl) (by decide) ?_
      exact j_el (T_X5_stands_179 (by decide)    H) trivial
    · refine j_iconst (v := Int32.ofInt 1) (dk dt_X5_stands 56 rfl) (by decide) ?_
      refine j_goto 179 (dk dt_X5_stands 57 rfl) (by decide) ?_
      exact j_el (T_X5_stands_179 (by decide)    H) trivial
  rw [if_neg y_1_8] at H
  by_cases y_1_9 : x0 = 28
  · rw [if_pos y_1_9] at H
    refine jz_tabIn 28 169 (dk dt_X5_stands 1 rfl) r_x0 y_1_9 (by decide) (by decide) rfl (by decide) ?_
    refine j_iload_n (dk dt_X5_stands 53 rfl) rfl ?_
    refine j_iconst (v := Int32.ofInt 3) (dk dt_X5_stands 54 rfl) (by decide) ?_
    refine jz_icmp_eq 178 (dk dt_X5_stands 55 rfl) (by decide) r_x2 (by decide) H (fun H => ?_) (fun H => ?_)
    · refine j_iconst (v := Int32.ofInt 0) (dk dt_X5_stands 58 rfl) (by decide) ?_
      exact j_el (T_X5_stands_179 (by decide)    H) trivial
    · refine j_iconst (v := Int32.ofInt 1) (dk dt_X5_stands 56 rfl) (by decide) ?_
      refine j_goto 179 (dk dt_X5_stands 57 rfl) (by decide) ?_
      exact j_el (T_X5_stands_179 (by decide)    H) trivial
  rw [if_neg y_1_9] at H
  by_cases y_1_10 : x0 = 29
  · rw [if_pos y_1_10] at H
    refine jz_tabIn 29 86 (dk dt_X5_stands 1 rfl) r_x0 y_1_10 (by decide) (by decide) rfl (by decide) ?_
    refine j_iload_n (dk dt_X5_stands 4 rfl) rfl ?_
    refine j_iconst (v := Int32.ofInt 1) (dk dt_X5_stands 5 rfl) (by decide) ?_
    refine jz_icmp_eq 96 (dk dt_X5_stands 6 rfl) (by decide) r_x2 (by decide) H (fun H => ?_) (fun H => ?_)
    · exact j_el (T_X5_stands_96     H) trivial
    · refine j_iload_n (dk dt_X5_stands 7 rfl) rfl ?_
      refine j_iconst (v := Int32.ofInt 2) (dk dt_X5_stands 8 rfl) (by decide) ?_
      refine jz_icmp_ne 100 (dk dt_X5_stands 9 rfl) (by decide) r_x2 (by decide) H (fun H => ?_) (fun H => ?_)
      · exact j_el (T_X5_stands_96     H) trivial
      · refine j_iconst (v := Int32.ofInt 0) (dk dt_X5_stands 12 rfl) (by decide) ?_
        exact j_el (T_X5_stands_101 (by decide)    H) trivial
  rw [if_neg y_1_10] at H
  by_cases y_1_11 : x0 = 30
  · rw [if_pos y_1_11] at H
    refine jz_tabIn 30 86 (dk dt_X5_stands 1 rfl) r_x0 y_1_11 (by decide) (by decide) rfl (by decide) ?_
    refine j_iload_n (dk dt_X5_stands 4 rfl) rfl ?_
    refine j_iconst (v := Int32.ofInt 1) (dk dt_X5_stands 5 rfl) (by decide) ?_
    refine jz_icmp_eq 96 (dk dt_X5_stands 6 rfl) (by decide) r_x2 (by decide) H (fun H => ?_) (fun H => ?_)
    · exact j_el (T_X5_stands_96     H) trivial
    · refine j_iload_n (dk dt_X5_stands 7 rfl) rfl ?_
      refine j_iconst (v := Int32.ofInt 2) (dk dt_X5_stands 8 rfl) (by decide) ?_
      refine jz_icmp_ne 100 (dk dt_X5_stands 9 rfl) (by decide) r_x2 (by decide) H (fun H => ?_) (fun H => ?_)
      · exact j_el (T_X5_stands_96     H) trivial
      · refine j_iconst (v := Int32.ofInt 0) (dk dt_X5_stands 12 rfl) (by decide) ?_
        exact j_el (T_X5_stands_101 (by decide)    H) trivial
  rw [if_neg y_1_11] at H
  by_cases y_1_12 : x0 = 31
  · rw [if_pos y_1_12] at H
    refine jz_tabIn 31 169 (dk dt_X5_stands 1 rfl) r_x0 y_1_12 (by decide) (by decide) rfl (by decide) ?_
    refine j_iload_n (dk dt_X5_stands 53 rfl) rfl ?_
    refine j_iconst (v := Int32.ofInt 3) (dk dt_X5_stands 54 rfl) (by decide) ?_
    refine jz_icmp_eq 178 (dk dt_X5_stands 55 rfl) (by decide) r_x2 (by decide) H (fun H => ?_) (fun H => ?_)
    · refine j_iconst (v := Int32.ofInt 0) (dk dt_X5_stands 58 rfl) (by decide) ?_
      exact j_el (T_X5_stands_179 (by decide)    H) trivial
    · refine j_iconst (v := Int32.ofInt 1) (dk dt_X5_stands 56 rfl) (by decide) ?_
      refine j_goto 179 (dk dt_X5_stands 57 rfl) (by decide) ?_
      exact j_el (T_X5_stands_179 (by decide)    H) trivial
  rw [if_neg y_1_12] at H
  by_cases y_1_13 : x0 = 32
  · rw [if_pos y_1_13] at H
    refine jz_tabIn 32 169 (dk dt_X5_stands 1 rfl) r_x0 y_1_13 (by decide) (by decide) rfl (by decide) ?_
    refine j_iload_n (dk dt_X5_stands 53 rfl) rfl ?_
    refine j_iconst (v := Int32.ofInt 3) (dk dt_X5_stands 54 rfl) (by decide) ?_
    refine jz_icmp_eq 178 (dk dt_X5_stands 55 rfl) (by decide) r_x2 (by decide) H (fun H => ?_) (fun H => ?_)
    · refine j_iconst (v := Int32.ofInt 0) (dk dt_X5_stands 58 rfl) (by decide) ?_
      exact j_el (T_X5_stands_179 (by decide)    H) trivial
    · refine j_iconst (v := Int32.ofInt 1) (dk dt_X5_stands 56 rfl) (by decide) ?_
      refine j_goto 179 (dk dt_X5_stands 57 rfl) (by decide) ?_
      exact j_el (T_X5_stands_179 (by decide)    H) trivial
  rw [if_neg y_1_13] at H
  by_cases y_1_14 : x0 = 33
  · rw [if_pos y_1_14] at H
    refine jz_tabIn 33 102 (dk dt_X5_stands 1 rfl) r_x0 y_1_14 (by decide) (by decide) rfl (by decide) ?_
    refine j_iload_n (dk dt_X5_stands 14 rfl) rfl ?_
    refine jz_if_ne 124 (dk dt_X5_stands 15 rfl) (by decide) r_x1 H (fun H => ?_) (fun H => ?_)
    · refine j_iload_n (dk dt_X5_stands 16 rfl) rfl ?_
      refine j_iconst (v := Int32.ofInt 3) (dk dt_X5_stands 17 rfl) (by decide) ?_
      refine jz_icmp_eq 116 (dk dt_X5_stands 18 rfl) (by decide) r_x2 (by decide) H (fun H => ?_) (fun H => ?_)
      · exact j_el (T_X5_stands_116     H) trivial
      · refine j_iload_n (dk dt_X5_stands 19 rfl) rfl ?_
        refine j_iconst (v := Int32.ofInt 2) (dk dt_X5_stands 20 rfl) (by decide) ?_
        refine jz_icmp_ne 120 (dk dt_X5_stands 21 rfl) (by decide) r_x2 (by decide) H (fun H => ?_) (fun H => ?_)
        · exact j_el (T_X5_stands_116     H) trivial
        · refine j_iconst (v := Int32.ofInt 0) (dk dt_X5_stands 24 rfl) (by decide) ?_
          refine j_goto 134 (dk dt_X5_stands 25 rfl) (by decide) ?_
          exact j_el (T_X5_stands_134 (by decide)    H) trivial
    · refine j_iload_n (dk dt_X5_stands 26 rfl) rfl ?_
      refine j_iconst (v := Int32.ofInt 3) (dk dt_X5_stands 27 rfl) (by decide) ?_
      refine jz_icmp_eq 133 (dk dt_X5_stands 28 rfl) (by decide) r_x2 (by decide) H (fun H => ?_) (fun H => ?_)
      · refine j_iconst (v := Int32.ofInt 0) (dk dt_X5_stands 31 rfl) (by decide) ?_
        exact j_el (T_X5_stands_134 (by decide)    H) trivial
      · refine j_iconst (v := Int32.ofInt 1) (dk dt_X5_stands 29 rfl) (by decide) ?_
        refine j_goto 134 (dk dt_X5_stands 30 rfl) (by decide) ?_
        exact j_el (T_X5_stands_134 (by decide)    H) trivial
  rw [if_neg y_1_14] at H
  by_cases y_1_15 : x0 = 34
  · rw [if_pos y_1_15] at H
    refine jz_tabIn 34 135 (dk dt_X5_stands 1 rfl) r_x0 y_1_15 (by decide) (by decide) rfl (by decide) ?_
    refine j_iload_n (dk dt_X5_stands 33 rfl) rfl ?_
    refine j_iconst (v := Int32.ofInt 1) (dk dt_X5_stands 34 rfl) (by decide) ?_
    refine jz_icmp_ne 158 (dk dt_X5_stands 35 rfl) (by decide) r_x1 (by decide) H (fun H => ?_) (fun H => ?_)
    · refine j_iload_n (dk dt_X5_stands 36 rfl) rfl ?_
      refine j_iconst (v := Int32.ofInt 3) (dk dt_X5_stands 37 rfl) (by decide) ?_
      refine jz_icmp_eq 150 (dk dt_X5_stands 38 rfl) (by decide) r_x2 (by decide) H (fun H => ?_) (fun H => ?_)
      · exact j_el (T_X5_stands_150     H) trivial
      · refine j_iload_n (dk dt_X5_stands 39 rfl) rfl ?_
        refine j_iconst (v := Int32.ofInt 2) (dk dt_X5_stands 40 rfl) (by decide) ?_
        refine jz_icmp_ne 154 (dk dt_X5_stands 41 rfl) (by decide) r_x2 (by decide) H (fun H => ?_) (fun H => ?_)
        · exact j_el (T_X5_stands_150     H) trivial
        · refine j_iconst (v := Int32.ofInt 0) (dk dt_X5_stands 44 rfl) (by decide) ?_
          refine j_goto 168 (dk dt_X5_stands 45 rfl) (by decide) ?_
          exact j_el (T_X5_stands_168 (by decide)    H) trivial
    · refine j_iload_n (dk dt_X5_stands 46 rfl) rfl ?_
      refine j_iconst (v := Int32.ofInt 3) (dk dt_X5_stands 47 rfl) (by decide) ?_
      refine jz_icmp_eq 167 (dk dt_X5_stands 48 rfl) (by decide) r_x2 (by decide) H (fun H => ?_) (fun H => ?_)
      · refine j_iconst (v := Int32.ofInt 0) (dk dt_X5_stands 51 rfl) (by decide) ?_
        exact j_el (T_X5_stands_168 (by decide)    H) trivial
      · refine j_iconst (v := Int32.ofInt 1) (dk dt_X5_stands 49 rfl) (by decide) ?_
        refine j_goto 168 (dk dt_X5_stands 50 rfl) (by decide) ?_
        exact j_el (T_X5_stands_168 (by decide)    H) trivial
  rw [if_neg y_1_15] at H
  by_cases y_1_16 : x0 = 35
  · rw [if_pos y_1_16] at H
    refine jz_tabIn 35 102 (dk dt_X5_stands 1 rfl) r_x0 y_1_16 (by decide) (by decide) rfl (by decide) ?_
    refine j_iload_n (dk dt_X5_stands 14 rfl) rfl ?_
    refine jz_if_ne 124 (dk dt_X5_stands 15 rfl) (by decide) r_x1 H (fun H => ?_) (fun H => ?_)
    · refine j_iload_n (dk dt_X5_stands 16 rfl) rfl ?_
      refine j_iconst (v := Int32.ofInt 3) (dk dt_X5_stands 17 rfl) (by decide) ?_
      refine jz_icmp_eq 116 (dk dt_X5_stands 18 rfl) (by decide) r_x2 (by decide) H (fun H => ?_) (fun H => ?_)
      · exact j_el (T_X5_stands_116     H) trivial
      · refine j_iload_n (dk dt_X5_stands 19 rfl) rfl ?_
        refine j_iconst (v := Int32.ofInt 2) (dk dt_X5_stands 20 rfl) (by decide) ?_
        refine jz_icmp_ne 120 (dk dt_X5_stands 21 rfl) (by decide) r_x2 (by decide) H (fun H => ?_) (fun H => ?_)
        · exact j_el (T_X5_stands_116     H) trivial
        · refine j_iconst (v := Int32.ofInt 0) (dk dt_X5_stands 24 rfl) (by decide) ?_
          refine j_goto 134 (dk dt_X5_stands 25 rfl) (by decide) ?_
          exact j_el (T_X5_stands_134 (by decide)    H) trivial
    · refine j_iload_n (dk dt_X5_stands 26 rfl) rfl ?_
      refine j_iconst (v := Int32.ofInt 3) (dk dt_X5_stands 27 rfl) (by decide) ?_
      refine jz_icmp_eq 133 (dk dt_X5_stands 28 rfl) (by decide) r_x2 (by decide) H (fun H => ?_) (fun H => ?_)
      · refine j_iconst (v := Int32.ofInt 0) (dk dt_X5_stands 31 rfl) (by decide) ?_
        exact j_el (T_X5_stands_134 (by decide)    H) trivial
      · refine j_iconst (v := Int32.ofInt 1) (dk dt_X5_stands 29 rfl) (by decide) ?_
        refine j_goto 134 (dk dt_X5_stands 30 rfl) (by decide) ?_
        exact j_el (T_X5_stands_134 (by decide)    H) trivial
  rw [if_neg y_1_16] at H
  refine jz_tabOut 169 (dk dt_X5_stands 1 rfl) r_x0 (by omega) (by decide) ?_
  refine j_iload_n (dk dt_X5_stands 53 rfl) rfl ?_
  refine j_iconst (v := Int32.ofInt 3) (dk dt_X5_stands 54 rfl) (by decide) ?_
  refine jz_icmp_eq 178 (dk dt_X5_stands 55 rfl) (by decide) r_x2 (by decide) H (fun H => ?_) (fun H => ?_)
  · refine j_iconst (v := Int32.ofInt 0) (dk dt_X5_stands 58 rfl) (by decide) ?_
    exact j_el (T_X5_stands_179 (by decide)    H) trivial
  · refine j_iconst (v := Int32.ofInt 1) (dk dt_X5_stands 56 rfl) (by decide) ?_
    refine j_goto 179 (dk dt_X5_stands 57 rfl) (by decide) ?_
    exact j_el (T_X5_stands_179 (by decide)    H) trivial
def F_X5_fits_24  (z : Z) (P : Int → Prop) : Prop :=
  P 0
theorem T_X5_fits_24  {z : Z} {P : Int → Prop}  (hw : Wz z)   (H : F_X5_fits_24 z P) : J mX5_fits 2 0 0 (nx (QPI (cz z) P)) 24 [none, none, none, none] [] (cz z) := by
  unfold F_X5_fits_24 at H
  refine j_iconst (v := Int32.ofInt 0) (dk dt_X5_fits 14 rfl) (by decide) ?_
  exact j_ireturn (dk dt_X5_fits 15 rfl) rfl (nar_z (by decide)) ⟨_, rfl, (by decide), rfl, H⟩
def L_X5_fits_28  (x0 : Int) (x1 : Int) (x2 : Int) (x3 : Int) (z : Z) (P : Int ⊕ ((Unit) ⊕ (Unit)) → Prop) : Prop :=
  (if x1 ≤ x3 then P (.inr (.inl ())) else F_X5_stands x0 x3 (bAnd (bShr x2 (w32 (2 * x3))) 3) (fun x_42 => (if x_42 = 0 then P (.inr (.inr ())) else P (.inl (w32 (x3 + 1))))))
theorem U_X5_fits_28  {x0 : Int} {x1 : Int} {x2 : Int} {x3 : Int} {z : Z} {P : Int ⊕ ((Unit) ⊕ (Unit)) → Prop} {post : Option Sv ⊕ String → Hp → Prop} (r_x0 : R32 x0) (r_x1 : R32 x1) (r_x2 : R32 x2) (r_x3 : R32 x3) (hw : Wz z)  (hl : ∀ (x3 : Int), P (.inl x3) → R32 x3 → J mX5_fits 2 0 0 post 28 [some (ii (x0)), some (ii (x1)), some (ii (x2)), some (ii (x3))] [] (cz z)) (he0 : P (.inr (.inl ())) → J mX5_fits 2 0 0 post 56 [none, none, none, none] [] (cz z)) (he1 : P (.inr (.inr ())) → J mX5_fits 2 0 0 post 48 [none, none, none, none] [] (cz z)) (H : L_X5_fits_28 x0 x1 x2 x3 z P) : J mX5_fits 2 0 0 post 28 [some (ii (x0)), some (ii (x1)), some (ii (x2)), some (ii (x3))] [] (cz z) := by
  unfold L_X5_fits_28 at H
  refine j_iload_n (dk dt_X5_fits 18 rfl) rfl ?_
  refine j_iload_n (dk dt_X5_fits 19 rfl) rfl ?_
  refine jz_icmp_ge 56 (dk dt_X5_fits 20 rfl) (by decide) r_x3 r_x1 H (fun H => ?_) (fun H => ?_)
  · exact j_el (he0  H ) trivial
  · refine j_iload_n (dk dt_X5_fits 21 rfl) rfl ?_
    refine j_iload_n (dk dt_X5_fits 22 rfl) rfl ?_
    refine j_iload_n (dk dt_X5_fits 23 rfl) rfl ?_
    refine j_iconst (v := Int32.ofInt 2) (dk dt_X5_fits 24 rfl) (by decide) ?_
    refine j_iload_n (dk dt_X5_fits 25 rfl) rfl ?_
    refine jz_imul (dk dt_X5_fits 26 rfl) ?_
    refine jz_ishr (dk dt_X5_fits 27 rfl) ?_
    refine j_iconst (v := Int32.ofInt 3) (dk dt_X5_fits 28 rfl) (by decide) ?_
    refine jz_iand (dk dt_X5_fits 29 rfl) ?_
    refine j_callS3 (dk dt_X5_fits 30 rfl) sl_X5_281 (T_X5_stands r_x0 r_x3 (r32_t _) H) rfl (by decide) (Nat.zero_le _) (Nat.zero_le _) (Nat.le_of_ble_eq_true rfl) (fun v_42 h_42 P_42 => ?_)
    obtain ⟨x_42, rfl, r_42, rfl, H⟩ := P_42
    dsimp only [rs]
    refine jz_if_ne 50 (dk dt_X5_fits 31 rfl) (by decide) r_42 H (fun H => ?_) (fun H => ?_)
    · exact j_el (he1  H ) trivial
    · refine jz_iinc (dk dt_X5_fits 34 rfl) rfl ?_
      refine j_goto 28 (dk dt_X5_fits 35 rfl) (by decide) ?_
      exact j_el (hl _ H (r32_w _)) (And.intro rfl (And.intro rfl (And.intro rfl (And.intro rfl trivial))))
def F_X5_fits_28  (x0 : Int) (x1 : Int) (x2 : Int) (x3 : Int) (z : Z) (P : Int → Prop) : Prop :=
  lp (S := Int) (E := (Unit) ⊕ (Unit)) (fun q P_ => L_X5_fits_28 x0 x1 x2 q z P_) x3 (fun e => match e with | (.inl _) => P 1 | (.inr _) => P 0)
theorem T_X5_fits_28  {x0 : Int} {x1 : Int} {x2 : Int} {x3 : Int} {z : Z} {P : Int → Prop} (r_x0 : R32 x0) (r_x1 : R32 x1) (r_x2 : R32 x2) (r_x3 : R32 x3) (hw : Wz z)   (H : F_X5_fits_28 x0 x1 x2 x3 z P) : J mX5_fits 2 0 0 (nx (QPI (cz z) P)) 28 [some (ii (x0)), some (ii (x1)), some (ii (x2)), some (ii (x3))] [] (cz z) := by
  unfold F_X5_fits_28 at H
  refine lp_J (G := fun q => R32 (q) → J mX5_fits 2 0 0 (nx (QPI (cz z) P)) 28 [some (ii (x0)), some (ii (x1)), some (ii (x2)), some (ii ((q)))] [] (cz z)) (fun x3 P_ hl_ he_ Hb => ?_) x3 H r_x3
  intro r_x3
  refine U_X5_fits_28 (P := P_) r_x0 r_x1 r_x2 r_x3 hw  (fun x3 Hp r_x3 => hl_ x3 Hp r_x3) ?_ ?_ Hb
  · intro Hp
    have H := he_ _ Hp
    refine j_iconst (v := Int32.ofInt 1) (dk dt_X5_fits 36 rfl) (by decide) ?_
    exact j_ireturn (dk dt_X5_fits 37 rfl) rfl (nar_z (by decide)) ⟨_, rfl, (by decide), rfl, H⟩
  · intro Hp
    have H := he_ _ Hp
    refine j_iconst (v := Int32.ofInt 0) (dk dt_X5_fits 32 rfl) (by decide) ?_
    exact j_ireturn (dk dt_X5_fits 33 rfl) rfl (nar_z (by decide)) ⟨_, rfl, (by decide), rfl, H⟩
def F_X5_fits  (x0 : Int) (x1 : Int) (x2 : Int) (z : Z) (P : Int → Prop) : Prop :=
  (0 ≤ w32 (x0 - 18) ∧ w32 (x0 - 18) < 18 ∧ (if x1 < (lstA.getD (Int.toNat (w32 (x0 - 18))) 0).toInt then F_X5_fits_24 z P else (0 ≤ w32 (x0 - 18) ∧ w32 (x0 - 18) < 18 ∧ (if x1 ≤ (mstA.getD (Int.toNat (w32 (x0 - 18))) 0).toInt then F_X5_fits_28 x0 x1 x2 0 z P else F_X5_fits_24 z P))))
theorem T_X5_fits  {x0 : Int} {x1 : Int} {x2 : Int} {z : Z} {P : Int → Prop} (r_x0 : R32 x0) (r_x1 : R32 x1) (r_x2 : R32 x2) (hw : Wz z)  (H : F_X5_fits x0 x1 x2 z P) : Con mX5_fits 2 0 0 [ii (x0), ii (x1), ii (x2)] (cz z) (QPI (cz z) P) := by
  refine con_of rfl (Nat.le_of_ble_eq_true rfl) (by decide) ?_
  show J mX5_fits 2 0 0 _ 0 [some (ii (x0)), some (ii (x1)), some (ii (x2)), none] [] (cz z)
  unfold F_X5_fits at H
  refine j_iload_n (dk dt_X5_fits 0 rfl) rfl ?_
  refine j_getsLN (dk dt_X5_fits 1 rfl) fs_X5_275 rfl ?_
  refine j_iload_n (dk dt_X5_fits 2 rfl) rfl ?_
  refine j_bipush (v := Int32.ofInt 18) (dk dt_X5_fits 3 rfl) (by decide) ?_
  refine jz_isub (dk dt_X5_fits 4 rfl) ?_
  obtain ⟨p_8, q_8, H⟩ := H
  refine j_saldL (Int.toNat (w32 (x0 - 18))) (dk dt_X5_fits 5 rfl) (i3_nI p_8) (by omega) ?_
  rw [← Int32.ofInt_toInt (lstA.getD (Int.toNat (w32 (x0 - 18))) 0)]
  refine jz_icmp_lt 24 (dk dt_X5_fits 6 rfl) (by decide) r_x1 (r32_t _) H (fun H => ?_) (fun H => ?_)
  · exact j_el (T_X5_fits_24  hw   H) trivial
  · refine j_iload_n (dk dt_X5_fits 7 rfl) rfl ?_
    refine j_getsMN (dk dt_X5_fits 8 rfl) fs_X5_278 rfl ?_
    refine j_iload_n (dk dt_X5_fits 9 rfl) rfl ?_
    refine j_bipush (v := Int32.ofInt 18) (dk dt_X5_fits 10 rfl) (by decide) ?_
    refine jz_isub (dk dt_X5_fits 11 rfl) ?_
    obtain ⟨p_20, q_20, H⟩ := H
    refine j_saldM (Int.toNat (w32 (x0 - 18))) (dk dt_X5_fits 12 rfl) (i3_nI p_20) (by omega) ?_
    rw [← Int32.ofInt_toInt (mstA.getD (Int.toNat (w32 (x0 - 18))) 0)]
    refine jz_icmp_le 26 (dk dt_X5_fits 13 rfl) (by decide) r_x1 (r32_t _) H (fun H => ?_) (fun H => ?_)
    · refine j_iconst (v := Int32.ofInt 0) (dk dt_X5_fits 16 rfl) (by decide) ?_
      refine j_istore_n (dk dt_X5_fits 17 rfl) (by decide) ?_
      exact j_el (T_X5_fits_28 r_x0 r_x1 r_x2 (by decide) hw   H) (And.intro rfl (And.intro rfl (And.intro rfl (And.intro rfl trivial))))
    · exact j_el (T_X5_fits_24  hw   H) trivial
def F_X5_placeOrEnd_22  (s0 : Int) (z : Z) (P : Int → Prop) : Prop :=
  P s0
theorem T_X5_placeOrEnd_22  {s0 : Int} {z : Z} {P : Int → Prop} (r_s0 : R32 s0) (hw : Wz z)   (H : F_X5_placeOrEnd_22 s0 z P) : J mX5_placeOrEnd 1 0 0 (nx (QPI (cz z) P)) 22 [none] [ii (s0)] (cz z) := by
  unfold F_X5_placeOrEnd_22 at H
  exact j_ireturn (dk dt_X5_placeOrEnd 10 rfl) rfl rfl ⟨_, rfl, r_s0, rfl, H⟩
def F_X5_placeOrEnd  (t0 : Nat) (z : Z) (P : Int → Prop) : Prop :=
  (zK z t0 = 6 ∧ (if zI z t0 8 ≤ zI z t0 9 then F_X5_placeOrEnd_22 (zI z t0 3) z P else F_X5_placeOrEnd_22 (zI z t0 9) z P))
theorem T_X5_placeOrEnd  {t0 : Nat} {z : Z} {P : Int → Prop}  (hw : Wz z)  (H : F_X5_placeOrEnd t0 z P) : Con mX5_placeOrEnd 1 0 0 [vr (some t0)] (cz z) (QPI (cz z) P) := by
  refine con_of rfl (Nat.le_of_ble_eq_true rfl) (by decide) ?_
  show J mX5_placeOrEnd 1 0 0 _ 0 [some (vr (some t0))] [] (cz z)
  unfold F_X5_placeOrEnd at H
  refine j_aload_n (dk dt_X5_placeOrEnd 0 rfl) rfl ?_
  obtain ⟨k_1, H⟩ := H
  refine jz_getI (kz := 9) (dk dt_X5_placeOrEnd 1 rfl) fl_X5_112 rfl rfl rfl k_1 ?_
  refine j_aload_n (dk dt_X5_placeOrEnd 2 rfl) rfl ?_
  refine jz_getI (kz := 8) (dk dt_X5_placeOrEnd 3 rfl) fl_X5_42 rfl rfl rfl k_1 ?_
  refine jz_icmp_ge 18 (dk dt_X5_placeOrEnd 4 rfl) (by decide) (hw.1 _ _) (hw.1 _ _) H (fun H => ?_) (fun H => ?_)
  · refine j_aload_n (dk dt_X5_placeOrEnd 8 rfl) rfl ?_
    refine jz_getI (kz := 3) (dk dt_X5_placeOrEnd 9 rfl) fl_X5_24 rfl rfl rfl k_1 ?_
    exact j_el (T_X5_placeOrEnd_22 (hw.1 _ _) hw   H) trivial
  · refine j_aload_n (dk dt_X5_placeOrEnd 5 rfl) rfl ?_
    refine jz_getI (kz := 9) (dk dt_X5_placeOrEnd 6 rfl) fl_X5_112 rfl rfl rfl k_1 ?_
    refine j_goto 22 (dk dt_X5_placeOrEnd 7 rfl) (by decide) ?_
    exact j_el (T_X5_placeOrEnd_22 (hw.1 _ _) hw   H) trivial
def F_X5_shapeFrom  (t0 : Nat) (x1 : Int) (z : Z) (P : Int → Prop) : Prop :=
  (zK z t0 = 6 ∧ (if zI z t0 10 = w32 (x1 + 1) then (∃ a_17, zO z t0 1 = some a_17 ∧ zK z a_17 = 20 ∧ (0 ≤ x1 ∧ x1 < zN z a_17 ∧ (∃ a_18, zO z a_17 x1 = some a_18 ∧ zK z a_18 = 5 ∧ (if zI z a_18 0 = 15 then P 2 else (if zI z a_18 0 = 16 then P 1 else (if zI z a_18 0 = 17 then P 3 else P 0)))))) else P 0))
theorem T_X5_shapeFrom  {t0 : Nat} {x1 : Int} {z : Z} {P : Int → Prop} (r_x1 : R32 x1) (hw : Wz z)  (H : F_X5_shapeFrom t0 x1 z P) : Con mX5_shapeFrom 1 0 0 [vr (some t0), ii (x1)] (cz z) (QPI (cz z) P) := by
  refine con_of rfl (Nat.le_of_ble_eq_true rfl) (by decide) ?_
  show J mX5_shapeFrom 1 0 0 _ 0 [some (vr (some t0)), some (ii (x1))] [] (cz z)
  unfold F_X5_shapeFrom at H
  refine j_aload_n (dk dt_X5_shapeFrom 0 rfl) rfl ?_
  obtain ⟨k_1, H⟩ := H
  refine jz_getI (kz := 10) (dk dt_X5_shapeFrom 1 rfl) fl_X5_109 rfl rfl rfl k_1 ?_
  refine j_iload_n (dk dt_X5_shapeFrom 2 rfl) rfl ?_
  refine j_iconst (v := Int32.ofInt 1) (dk dt_X5_shapeFrom 3 rfl) (by decide) ?_
  refine jz_iadd (dk dt_X5_shapeFrom 4 rfl) ?_
  refine jz_icmp_eq 12 (dk dt_X5_shapeFrom 5 rfl) (by decide) (hw.1 _ _) (r32_w _) H (fun H => ?_) (fun H => ?_)
  · refine j_aload_n (dk dt_X5_shapeFrom 8 rfl) rfl ?_
    refine jz_getO (kz := 1) (dk dt_X5_shapeFrom 9 rfl) fl_X5_17 rfl rfl rfl k_1 ?_
    refine j_iload_n (dk dt_X5_shapeFrom 10 rfl) rfl ?_
    obtain ⟨a_17, e_17, k_17, H⟩ := H
    obtain ⟨p_17, q_17, H⟩ := H
    refine jz_aald (t := 6) (dk dt_X5_shapeFrom 11 rfl) e_17 k_17 (by decide) (by decide) p_17 q_17 hw ?_
    obtain ⟨a_18, e_18, k_18, H⟩ := H
    refine jz_getI (kz := 0) (dk dt_X5_shapeFrom 12 rfl) fl_X5_272 rfl rfl e_18 k_18 ?_
    by_cases y_21_0 : zI z a_18 0 = 15
    · rw [if_pos y_21_0] at H
      refine jz_tabIn 15 50 (dk dt_X5_shapeFrom 13 rfl) (hw.1 _ _) y_21_0 (by decide) (by decide) rfl (by decide) ?_
      refine j_iconst (v := Int32.ofInt 2) (dk dt_X5_shapeFrom 16 rfl) (by decide) ?_
      exact j_ireturn (dk dt_X5_shapeFrom 17 rfl) rfl rfl ⟨_, rfl, (by decide), rfl, H⟩
    rw [if_neg y_21_0] at H
    by_cases y_21_1 : zI z a_18 0 = 16
    · rw [if_pos y_21_1] at H
      refine jz_tabIn 16 48 (dk dt_X5_shapeFrom 13 rfl) (hw.1 _ _) y_21_1 (by decide) (by decide) rfl (by decide) ?_
      refine j_iconst (v := Int32.ofInt 1) (dk dt_X5_shapeFrom 14 rfl) (by decide) ?_
      exact j_ireturn (dk dt_X5_shapeFrom 15 rfl) rfl rfl ⟨_, rfl, (by decide), rfl, H⟩
    rw [if_neg y_21_1] at H
    by_cases y_21_2 : zI z a_18 0 = 17
    · rw [if_pos y_21_2] at H
      refine jz_tabIn 17 52 (dk dt_X5_shapeFrom 13 rfl) (hw.1 _ _) y_21_2 (by decide) (by decide) rfl (by decide) ?_
      refine j_iconst (v := Int32.ofInt 3) (dk dt_X5_shapeFrom 18 rfl) (by decide) ?_
      exact j_ireturn (dk dt_X5_shapeFrom 19 rfl) rfl rfl ⟨_, rfl, (by decide), rfl, H⟩
    rw [if_neg y_21_2] at H
    refine jz_tabOut 54 (dk dt_X5_shapeFrom 13 rfl) (hw.1 _ _) (by omega) (by decide) ?_
    refine j_iconst (v := Int32.ofInt 0) (dk dt_X5_shapeFrom 20 rfl) (by decide) ?_
    exact j_ireturn (dk dt_X5_shapeFrom 21 rfl) rfl rfl ⟨_, rfl, (by decide), rfl, H⟩
  · refine j_iconst (v := Int32.ofInt 0) (dk dt_X5_shapeFrom 6 rfl) (by decide) ?_
    exact j_ireturn (dk dt_X5_shapeFrom 7 rfl) rfl rfl ⟨_, rfl, (by decide), rfl, H⟩
def L_X5_skipBlanks_0  (t0 : Nat) (z : Z) (P : Z ⊕ ((Z)) → Prop) : Prop :=
  (zK z t0 = 6 ∧ (if zI z t0 8 ≤ zI z t0 9 then P (.inr z) else (∃ a_19, zO z t0 0 = some a_19 ∧ zK z a_19 = 14 ∧ (0 ≤ zI z t0 9 ∧ zI z t0 9 < zN z a_19 ∧ (if zI z a_19 (zI z t0 9) = 32 then (∀ z_32, z_32 = wI z t0 9 (w32 (zI z t0 9 + 1)) → P (.inl z_32)) else P (.inr z))))))
theorem U_X5_skipBlanks_0  {t0 : Nat} {z : Z} {P : Z ⊕ ((Z)) → Prop} {post : Option Sv ⊕ String → Hp → Prop}  (hw : Wz z)  (hl : ∀ (z : Z), P (.inl z) → Wz z → J mX5_skipBlanks 1 0 0 post 0 [some (vr (some t0))] [] (cz z)) (he0 : ∀ (z : Z), P (.inr z) → Wz z → J mX5_skipBlanks 1 0 0 post 38 [none] [] (cz z)) (H : L_X5_skipBlanks_0 t0 z P) : J mX5_skipBlanks 1 0 0 post 0 [some (vr (some t0))] [] (cz z) := by
  unfold L_X5_skipBlanks_0 at H
  refine j_aload_n (dk dt_X5_skipBlanks 0 rfl) rfl ?_
  obtain ⟨k_1, H⟩ := H
  refine jz_getI (kz := 9) (dk dt_X5_skipBlanks 1 rfl) fl_X5_112 rfl rfl rfl k_1 ?_
  refine j_aload_n (dk dt_X5_skipBlanks 2 rfl) rfl ?_
  refine jz_getI (kz := 8) (dk dt_X5_skipBlanks 3 rfl) fl_X5_42 rfl rfl rfl k_1 ?_
  refine jz_icmp_ge 38 (dk dt_X5_skipBlanks 4 rfl) (by decide) (hw.1 _ _) (hw.1 _ _) H (fun H => ?_) (fun H => ?_)
  · exact j_el (he0 _ H hw) trivial
  · refine j_aload_n (dk dt_X5_skipBlanks 5 rfl) rfl ?_
    refine jz_getO (kz := 0) (dk dt_X5_skipBlanks 6 rfl) fl_X5_9 rfl rfl rfl k_1 ?_
    refine j_aload_n (dk dt_X5_skipBlanks 7 rfl) rfl ?_
    refine jz_getI (kz := 9) (dk dt_X5_skipBlanks 8 rfl) fl_X5_112 rfl rfl rfl k_1 ?_
    obtain ⟨a_19, e_19, k_19, H⟩ := H
    obtain ⟨p_19, q_19, H⟩ := H
    refine jz_bald (dk dt_X5_skipBlanks 9 rfl) e_19 k_19 p_19 q_19 hw ?_
    refine j_bipush (v := Int32.ofInt 32) (dk dt_X5_skipBlanks 10 rfl) (by decide) ?_
    refine jz_icmp_ne 38 (dk dt_X5_skipBlanks 11 rfl) (by decide) (hw.1 _ _) (by decide) H (fun H => ?_) (fun H => ?_)
    · refine j_aload_n (dk dt_X5_skipBlanks 12 rfl) rfl ?_
      refine j_dup (dk dt_X5_skipBlanks 13 rfl) rfl ?_
      refine jz_getI (kz := 9) (dk dt_X5_skipBlanks 14 rfl) fl_X5_112 rfl rfl rfl k_1 ?_
      refine j_iconst (v := Int32.ofInt 1) (dk dt_X5_skipBlanks 15 rfl) (by decide) ?_
      refine jz_iadd (dk dt_X5_skipBlanks 16 rfl) ?_
      refine jz_putI (kz := 9) (dk dt_X5_skipBlanks 17 rfl) fl_X5_112 rfl rfl rfl rfl rfl k_1 hw (r32_w _) (fun w_32 => ?_)
      replace H := H _ rfl
      refine j_goto 0 (dk dt_X5_skipBlanks 18 rfl) (by decide) ?_
      exact j_el (hl _ H w_32) (And.intro rfl trivial)
    · exact j_el (he0 _ H hw) trivial
def F_X5_skipBlanks_38  (z : Z) (P : Z → Prop) : Prop :=
  P z
theorem T_X5_skipBlanks_38  {z : Z} {P : Z → Prop}  (hw : Wz z)   (H : F_X5_skipBlanks_38 z P) : J mX5_skipBlanks 1 0 0 (nx (QZV P)) 38 [none] [] (cz z) := by
  unfold F_X5_skipBlanks_38 at H
  exact j_return (dk dt_X5_skipBlanks 19 rfl) rfl ⟨_, rfl, rfl, hw, H⟩
def F_X5_skipBlanks_0  (t0 : Nat) (z : Z) (P : Z → Prop) : Prop :=
  lp (S := Z) (E := (Z)) (fun q P_ => L_X5_skipBlanks_0 t0 q P_) z (fun (z : Z) => F_X5_skipBlanks_38 z P)
theorem T_X5_skipBlanks_0  {t0 : Nat} {z : Z} {P : Z → Prop}  (hw : Wz z)   (H : F_X5_skipBlanks_0 t0 z P) : J mX5_skipBlanks 1 0 0 (nx (QZV P)) 0 [some (vr (some t0))] [] (cz z) := by
  unfold F_X5_skipBlanks_0 at H
  refine lp_J (G := fun q => Wz (q) → J mX5_skipBlanks 1 0 0 (nx (QZV P)) 0 [some (vr (some t0))] [] (cz (q))) (fun z P_ hl_ he_ Hb => ?_) z H hw
  intro hw
  refine U_X5_skipBlanks_0 (P := P_)  hw  (fun z Hp hw => hl_ z Hp hw) ?_ Hb
  · intro z Hp hw
    have H := he_ _ Hp
    exact j_el (T_X5_skipBlanks_38  hw   H) trivial
def F_X5_skipBlanks  (t0 : Nat) (z : Z) (P : Z → Prop) : Prop :=
  F_X5_skipBlanks_0 t0 z P
theorem T_X5_skipBlanks  {t0 : Nat} {z : Z} {P : Z → Prop}  (hw : Wz z)  (H : F_X5_skipBlanks t0 z P) : Con mX5_skipBlanks 1 0 0 [vr (some t0)] (cz z) (QZV P) := by
  refine con_of rfl (Nat.le_of_ble_eq_true rfl) (by decide) ?_
  show J mX5_skipBlanks 1 0 0 _ 0 [some (vr (some t0))] [] (cz z)
  unfold F_X5_skipBlanks at H
  exact j_el (T_X5_skipBlanks_0  hw   H) (And.intro rfl trivial)
def L_X5_number_20  (t0 : Nat) (x1 : Option Nat) (x2 : Int) (z : Z) (c : Nat) (s : Nat) (P : Z ⊕ ((Z) ⊕ (Z)) → Prop) : Prop :=
  (zK z t0 = 6 ∧ (if zI z t0 8 ≤ zI z t0 9 then P (.inr (.inl z)) else (∃ a_39, zO z t0 0 = some a_39 ∧ zK z a_39 = 14 ∧ (0 ≤ zI z t0 9 ∧ zI z t0 9 < zN z a_39 ∧ F_X11_isDigit (zI z a_39 (zI z t0 9)) (fun x_40 => (if x_40 = 0 then P (.inr (.inl z)) else (if w32 ((zI z t0 9) - x2) = 15 then P (.inr (.inr z)) else (∃ a_69, x1 = some a_69 ∧ zK z a_69 = 9 ∧ (∀ z_91, z_91 = wG z a_69 2 (w64 ((w64 ((w64 ((zG z a_69 2) * 10)) + (zI z a_39 (zI z t0 9)))) - 48)) → (∀ z_101, z_101 = wI z_91 t0 9 (w32 (zI z_91 t0 9 + 1)) → P (.inl z_101)))))))))))
theorem U_X5_number_20  {t0 : Nat} {x1 : Option Nat} {x2 : Int} {z : Z} {c : Nat} {s : Nat} {P : Z ⊕ ((Z) ⊕ (Z)) → Prop} {post : Option Sv ⊕ String → Hp → Prop} (r_x2 : R32 x2) (hw : Wz z)  (hl : ∀ (z : Z), P (.inl z) → Wz z → J mX5_number 6 c s post 20 [some (vr (some t0)), some (vr (x1)), some (ii (x2))] [] (cz z)) (he0 : ∀ (z : Z), P (.inr (.inl z)) → Wz z → J mX5_number 6 c s post 107 [some (vr (some t0)), some (vr (x1)), none] [] (cz z)) (he1 : ∀ (z : Z), P (.inr (.inr z)) → Wz z → J mX5_number 6 c s post 57 [some (vr (some t0)), none, none] [] (cz z)) (H : L_X5_number_20 t0 x1 x2 z c s P) : J mX5_number 6 c s post 20 [some (vr (some t0)), some (vr (x1)), some (ii (x2))] [] (cz z) := by
  unfold L_X5_number_20 at H
  refine j_aload_n (dk dt_X5_number 12 rfl) rfl ?_
  obtain ⟨k_21, H⟩ := H
  refine jz_getI (kz := 9) (dk dt_X5_number 13 rfl) fl_X5_112 rfl rfl rfl k_21 ?_
  refine j_aload_n (dk dt_X5_number 14 rfl) rfl ?_
  refine jz_getI (kz := 8) (dk dt_X5_number 15 rfl) fl_X5_42 rfl rfl rfl k_21 ?_
  refine jz_icmp_ge 107 (dk dt_X5_number 16 rfl) (by decide) (hw.1 _ _) (hw.1 _ _) H (fun H => ?_) (fun H => ?_)
  · exact j_el (he0 _ H hw) (And.intro rfl (And.intro rfl trivial))
  · refine j_aload_n (dk dt_X5_number 17 rfl) rfl ?_
    refine jz_getO (kz := 0) (dk dt_X5_number 18 rfl) fl_X5_9 rfl rfl rfl k_21 ?_
    refine j_aload_n (dk dt_X5_number 19 rfl) rfl ?_
    refine jz_getI (kz := 9) (dk dt_X5_number 20 rfl) fl_X5_112 rfl rfl rfl k_21 ?_
    obtain ⟨a_39, e_39, k_39, H⟩ := H
    obtain ⟨p_39, q_39, H⟩ := H
    refine jz_bald (dk dt_X5_number 21 rfl) e_39 k_39 p_39 q_39 hw ?_
    refine j_callSN1 (dk dt_X5_number 22 rfl) snl_X5_102 (T_X11_isDigit (hw.1 _ _) H) rfl (by decide) (Nat.zero_le _) (Nat.zero_le _) (Nat.le_of_ble_eq_true rfl) (fun v_40 h_40 P_40 => ?_)
    obtain ⟨x_40, rfl, r_40, rfl, H⟩ := P_40
    dsimp only [rs]
    refine jz_if_eq 107 (dk dt_X5_number 23 rfl) (by decide) r_40 H (fun H => ?_) (fun H => ?_)
    · exact j_el (he0 _ H hw) (And.intro rfl (And.intro rfl trivial))
    · refine j_aload_n (dk dt_X5_number 24 rfl) rfl ?_
      refine jz_getI (kz := 9) (dk dt_X5_number 25 rfl) fl_X5_112 rfl rfl rfl k_21 ?_
      refine j_iload_n (dk dt_X5_number 26 rfl) rfl ?_
      refine jz_isub (dk dt_X5_number 27 rfl) ?_
      refine j_bipush (v := Int32.ofInt 15) (dk dt_X5_number 28 rfl) (by decide) ?_
      refine jz_icmp_ne 67 (dk dt_X5_number 29 rfl) (by decide) (r32_w _) (by decide) H (fun H => ?_) (fun H => ?_)
      · exact j_el (he1 _ H hw) (And.intro rfl trivial)
      · refine j_aload_n (dk dt_X5_number 36 rfl) rfl ?_
        refine j_aload_n (dk dt_X5_number 37 rfl) rfl ?_
        obtain ⟨a_69, e_69, k_69, H⟩ := H
        refine jz_getG (kz := 2) (dk dt_X5_number 38 rfl) fl_X5_188 rfl rfl e_69 k_69 ?_
        refine j_ldc2 (v := Int64.ofInt (10)) (dk dt_X5_number 39 rfl) (by exact kl_X5_105) ?_
        refine jz_lmul (dk dt_X5_number 40 rfl) ?_
        refine j_aload_n (dk dt_X5_number 41 rfl) rfl ?_
        refine jz_getO (kz := 0) (dk dt_X5_number 42 rfl) fl_X5_9 rfl rfl rfl k_21 ?_
        refine j_aload_n (dk dt_X5_number 43 rfl) rfl ?_
        refine jz_getI (kz := 9) (dk dt_X5_number 44 rfl) fl_X5_112 rfl rfl rfl k_21 ?_
        refine jz_bald (dk dt_X5_number 45 rfl) e_39 k_39 p_39 q_39 hw ?_
        refine jz_i2l (dk dt_X5_number 46 rfl) (hw.1 _ _) ?_
        refine jz_ladd (dk dt_X5_number 47 rfl) ?_
        refine j_ldc2 (v := Int64.ofInt (48)) (dk dt_X5_number 48 rfl) (by exact kl_X5_107) ?_
        refine jz_lsub (dk dt_X5_number 49 rfl) ?_
        refine jz_putG (kz := 2) (dk dt_X5_number 50 rfl) fl_X5_188 rfl rfl rfl rfl e_69 k_69 hw (r64_w _) (fun w_91 => ?_)
        replace H := H _ rfl
        refine j_aload_n (dk dt_X5_number 51 rfl) rfl ?_
        refine j_dup (dk dt_X5_number 52 rfl) rfl ?_
        refine jz_getI (kz := 9) (dk dt_X5_number 53 rfl) fl_X5_112 rfl rfl rfl k_21 ?_
        refine j_iconst (v := Int32.ofInt 1) (dk dt_X5_number 54 rfl) (by decide) ?_
        refine jz_iadd (dk dt_X5_number 55 rfl) ?_
        refine jz_putI (kz := 9) (dk dt_X5_number 56 rfl) fl_X5_112 rfl rfl rfl rfl rfl k_21 w_91 (r32_w _) (fun w_101 => ?_)
        replace H := H _ rfl
        refine j_goto 20 (dk dt_X5_number 57 rfl) (by decide) ?_
        exact j_el (hl _ H w_101) (And.intro rfl (And.intro rfl (And.intro rfl trivial)))
def F_X5_number_107  (t0 : Nat) (x1 : Option Nat) (z : Z) (c : Nat) (s : Nat) (P : Z → Prop) : Prop :=
  (zK z t0 = 6 ∧ (∃ c_112 s_112, c_112 ≤ c ∧ s_112 ≤ s ∧ F_X5_addPart t0 14 0 x1 z c_112 s_112 (fun z_112 => P z_112)))
theorem T_X5_number_107  {t0 : Nat} {x1 : Option Nat} {z : Z} {c : Nat} {s : Nat} {P : Z → Prop}  (hw : Wz z)   (H : F_X5_number_107 t0 x1 z c s P) : J mX5_number 6 c s (nx (QZV P)) 107 [some (vr (some t0)), some (vr (x1)), none] [] (cz z) := by
  unfold F_X5_number_107 at H
  refine j_aload_n (dk dt_X5_number 58 rfl) rfl ?_
  refine j_bipush (v := Int32.ofInt 14) (dk dt_X5_number 59 rfl) (by decide) ?_
  refine j_iconst (v := Int32.ofInt 0) (dk dt_X5_number 60 rfl) (by decide) ?_
  refine j_aload_n (dk dt_X5_number 61 rfl) rfl ?_
  obtain ⟨k_112, H⟩ := H
  obtain ⟨c_112, s_112, hc_112, hs_112, H⟩ := H
  refine jz_callV3 (dk dt_X5_number 62 rfl) vl_X5_143 rfl (T_X5_addPart (by decide) (by decide) hw H) k_112 rfl (by decide) hc_112 hs_112 (Nat.le_of_ble_eq_true rfl) (fun v_112 h_112 P_112 => ?_)
  obtain ⟨z_112, rfl, rfl, w_112, H⟩ := P_112
  dsimp only [rs]
  exact j_return (dk dt_X5_number 63 rfl) rfl ⟨_, rfl, rfl, w_112, H⟩
def F_X5_number_20  (t0 : Nat) (x1 : Option Nat) (x2 : Int) (z : Z) (c : Nat) (s : Nat) (P : Z → Prop) : Prop :=
  lp (S := Z) (E := (Z) ⊕ (Z)) (fun q P_ => L_X5_number_20 t0 x1 x2 q c s P_) z (fun e => match e with | (.inl z) => F_X5_number_107 t0 x1 z c s P | (.inr z) => (zK z t0 = 6 ∧ F_X5_fail t0 1 (zI z t0 9) z (fun z_63 => P z_63)))
theorem T_X5_number_20  {t0 : Nat} {x1 : Option Nat} {x2 : Int} {z : Z} {c : Nat} {s : Nat} {P : Z → Prop} (r_x2 : R32 x2) (hw : Wz z)   (H : F_X5_number_20 t0 x1 x2 z c s P) : J mX5_number 6 c s (nx (QZV P)) 20 [some (vr (some t0)), some (vr (x1)), some (ii (x2))] [] (cz z) := by
  unfold F_X5_number_20 at H
  refine lp_J (G := fun q => Wz (q) → J mX5_number 6 c s (nx (QZV P)) 20 [some (vr (some t0)), some (vr (x1)), some (ii (x2))] [] (cz (q))) (fun z P_ hl_ he_ Hb => ?_) z H hw
  intro hw
  refine U_X5_number_20 (P := P_) r_x2 hw  (fun z Hp hw => hl_ z Hp hw) ?_ ?_ Hb
  · intro z Hp hw
    have H := he_ _ Hp
    exact j_el (T_X5_number_107  hw   H) (And.intro rfl (And.intro rfl trivial))
  · intro z Hp hw
    have H := he_ _ Hp
    refine j_aload_n (dk dt_X5_number 30 rfl) rfl ?_
    refine j_iconst (v := Int32.ofInt 1) (dk dt_X5_number 31 rfl) (by decide) ?_
    refine j_aload_n (dk dt_X5_number 32 rfl) rfl ?_
    obtain ⟨k_60, H⟩ := H
    refine jz_getI (kz := 9) (dk dt_X5_number 33 rfl) fl_X5_112 rfl rfl rfl k_60 ?_
    refine jz_callV2 (dk dt_X5_number 34 rfl) vl_X5_62 rfl (T_X5_fail (by decide) (hw.1 _ _) hw H) k_60 rfl (by decide) (Nat.zero_le _) (Nat.zero_le _) (Nat.le_of_ble_eq_true rfl) (fun v_63 h_63 P_63 => ?_)
    obtain ⟨z_63, rfl, rfl, w_63, H⟩ := P_63
    dsimp only [rs]
    exact j_return (dk dt_X5_number 35 rfl) rfl ⟨_, rfl, rfl, w_63, H⟩
def F_X5_number  (t0 : Nat) (z : Z) (c : Nat) (s : Nat) (P : Z → Prop) : Prop :=
  (1 ≤ c ∧ 4 ≤ s ∧ ∀ a_0, zK z a_0 = 0 → (∀ z_0, z_0 = nZ z a_0 9 0 → (∃ c_5 s_5, c_5 ≤ c - 1 ∧ s_5 ≤ s - 4 ∧ F_X8_init a_0 0 z_0 c_5 s_5 (fun z_5 => (zK z_5 t0 = 6 ∧ (zK z_5 a_0 = 9 ∧ F_X8_set a_0 1 0 z_5 (fun z_17 => F_X5_number_20 t0 (some a_0) (zI z_5 t0 9) z_17 ((c - 1) - c_5) ((s - 4) - s_5) P)))))))
theorem T_X5_number  {t0 : Nat} {z : Z} {c : Nat} {s : Nat} {P : Z → Prop}  (hw : Wz z)  (H : F_X5_number t0 z c s P) : Con mX5_number 6 c s [vr (some t0)] (cz z) (QZV P) := by
  refine con_of rfl (Nat.le_of_ble_eq_true rfl) (by decide) ?_
  show J mX5_number 6 c s _ 0 [some (vr (some t0)), none, none] [] (cz z)
  unfold F_X5_number at H
  obtain ⟨hc_0, hs_0, H⟩ := H
  refine jz_new (dk dt_X5_number 0 rfl) cl_8 nl_X5_66 iw_8 zw_8 rfl hc_0 hs_0 hw (fun a_0 e_0 w_0 => ?_)
  replace H := H a_0 e_0
  replace H := H _ rfl
  refine j_dup (dk dt_X5_number 1 rfl) rfl ?_
  refine j_iconst (v := Int32.ofInt 0) (dk dt_X5_number 2 rfl) (by decide) ?_
  obtain ⟨c_5, s_5, hc_5, hs_5, H⟩ := H
  refine jz_callI1 (dk dt_X5_number 3 rfl) il_X5_68 rfl (T_X8_init (by decide) w_0 H) rfl (by decide) hc_5 hs_5 (Nat.le_of_ble_eq_true rfl) (fun v_5 h_5 P_5 => ?_)
  obtain ⟨z_5, rfl, rfl, w_5, H⟩ := P_5
  dsimp only [rs]
  refine j_astore_n (dk dt_X5_number 4 rfl) (by decide) ?_
  refine j_aload_n (dk dt_X5_number 5 rfl) rfl ?_
  obtain ⟨k_10, H⟩ := H
  refine jz_getI (kz := 9) (dk dt_X5_number 6 rfl) fl_X5_112 rfl rfl rfl k_10 ?_
  refine j_istore_n (dk dt_X5_number 7 rfl) (by decide) ?_
  refine j_aload_n (dk dt_X5_number 8 rfl) rfl ?_
  refine j_iconst (v := Int32.ofInt 1) (dk dt_X5_number 9 rfl) (by decide) ?_
  refine j_lconst (v := Int64.ofInt 0) (dk dt_X5_number 10 rfl) (by decide) ?_
  obtain ⟨k_17, H⟩ := H
  refine jz_callV2 (dk dt_X5_number 11 rfl) vl_X5_79 rfl (T_X8_set (by decide) (by decide) w_5 H) k_17 rfl (by decide) (Nat.zero_le _) (Nat.zero_le _) (Nat.le_of_ble_eq_true rfl) (fun v_17 h_17 P_17 => ?_)
  obtain ⟨z_17, rfl, rfl, w_17, H⟩ := P_17
  dsimp only [rs]
  exact j_el (T_X5_number_20 (w_5.1 _ _) w_17   H) (And.intro rfl (And.intro rfl (And.intro rfl trivial)))
def F_X11_isPlain_17  (s0 : Int) (P : Int → Prop) : Prop :=
  (Z1 s0 ∧ P s0)
theorem T_X11_isPlain_17  {s0 : Int} {P : Int → Prop} {h : Hp} (r_s0 : R32 s0)    (H : F_X11_isPlain_17 s0 P) : J mX11_isPlain 1 0 0 (nx (QPI h P)) 17 [none] [ii (s0)] h := by
  unfold F_X11_isPlain_17 at H
  obtain ⟨hz_, H⟩ := H
  exact j_ireturn (dk dt_X11_isPlain 9 rfl) rfl (nar_z hz_) ⟨_, rfl, r_s0, rfl, H⟩
def F_X11_isPlain_16  (P : Int → Prop) : Prop :=
  F_X11_isPlain_17 0 P
theorem T_X11_isPlain_16  {P : Int → Prop} {h : Hp}     (H : F_X11_isPlain_16 P) : J mX11_isPlain 1 0 0 (nx (QPI h P)) 16 [none] [] h := by
  unfold F_X11_isPlain_16 at H
  refine j_iconst (v := Int32.ofInt 0) (dk dt_X11_isPlain 8 rfl) (by decide) ?_
  exact j_el (T_X11_isPlain_17 (by decide)    H) trivial
def F_X11_isPlain  (x0 : Int) (P : Int → Prop) : Prop :=
  (if x0 < 32 then F_X11_isPlain_16  P else (if 126 < x0 then F_X11_isPlain_16  P else F_X11_isPlain_17 1 P))
theorem T_X11_isPlain  {x0 : Int} {P : Int → Prop} {h : Hp} (r_x0 : R32 x0)   (H : F_X11_isPlain x0 P) : Con mX11_isPlain 1 0 0 [ii (x0)] h (QPI h P) := by
  refine con_of rfl (Nat.le_of_ble_eq_true rfl) (by decide) ?_
  show J mX11_isPlain 1 0 0 _ 0 [some (ii (x0))] [] h
  unfold F_X11_isPlain at H
  refine j_iload_n (dk dt_X11_isPlain 0 rfl) rfl ?_
  refine j_bipush (v := Int32.ofInt 32) (dk dt_X11_isPlain 1 rfl) (by decide) ?_
  refine jz_icmp_lt 16 (dk dt_X11_isPlain 2 rfl) (by decide) r_x0 (by decide) H (fun H => ?_) (fun H => ?_)
  · exact j_el (T_X11_isPlain_16     H) trivial
  · refine j_iload_n (dk dt_X11_isPlain 3 rfl) rfl ?_
    refine j_bipush (v := Int32.ofInt 126) (dk dt_X11_isPlain 4 rfl) (by decide) ?_
    refine jz_icmp_gt 16 (dk dt_X11_isPlain 5 rfl) (by decide) r_x0 (by decide) H (fun H => ?_) (fun H => ?_)
    · exact j_el (T_X11_isPlain_16     H) trivial
    · refine j_iconst (v := Int32.ofInt 1) (dk dt_X11_isPlain 6 rfl) (by decide) ?_
      refine j_goto 17 (dk dt_X11_isPlain 7 rfl) (by decide) ?_
      exact j_el (T_X11_isPlain_17 (by decide)    H) trivial
def L_X5_quoted_9  (t0 : Nat) (x1 : Int) (x2 : Int) (z : Z) (c : Nat) (s : Nat) (P : Int ⊕ ((Unit) ⊕ (Int) ⊕ (Unit) ⊕ (Int)) → Prop) : Prop :=
  (zK z t0 = 6 ∧ (if zI z t0 8 ≤ x2 then P (.inr (.inl ())) else (∃ a_22, zO z t0 0 = some a_22 ∧ zK z a_22 = 14 ∧ (0 ≤ x2 ∧ x2 < zN z a_22 ∧ (if zI z a_22 x2 = 34 then P (.inr (.inr (.inl x2))) else (if w32 (x2 - x1) = 24 then P (.inr (.inr (.inr (.inl ())))) else F_X11_isPlain (zI z a_22 x2) (fun x_91 => (if x_91 = 0 then P (.inr (.inr (.inr (.inr x2)))) else P (.inl (w32 (x2 + 1)))))))))))
theorem U_X5_quoted_9  {t0 : Nat} {x1 : Int} {x2 : Int} {z : Z} {c : Nat} {s : Nat} {P : Int ⊕ ((Unit) ⊕ (Int) ⊕ (Unit) ⊕ (Int)) → Prop} {post : Option Sv ⊕ String → Hp → Prop} (r_x1 : R32 x1) (r_x2 : R32 x2) (hw : Wz z)  (hl : ∀ (x2 : Int), P (.inl x2) → R32 x2 → J mX5_quoted 6 c s post 9 [some (vr (some t0)), some (ii (x1)), some (ii (x2)), none] [] (cz z)) (he0 : P (.inr (.inl ())) → J mX5_quoted 6 c s post 110 [some (vr (some t0)), none, none, none] [] (cz z)) (he1 : ∀ (x2 : Int), P (.inr (.inr (.inl x2))) → R32 x2 → J mX5_quoted 6 c s post 28 [some (vr (some t0)), some (ii (x1)), some (ii (x2)), none] [] (cz z)) (he2 : P (.inr (.inr (.inr (.inl ())))) → J mX5_quoted 6 c s post 75 [some (vr (some t0)), none, none, none] [] (cz z)) (he3 : ∀ (x2 : Int), P (.inr (.inr (.inr (.inr x2)))) → R32 x2 → J mX5_quoted 6 c s post 97 [some (vr (some t0)), none, some (ii (x2)), none] [] (cz z)) (H : L_X5_quoted_9 t0 x1 x2 z c s P) : J mX5_quoted 6 c s post 9 [some (vr (some t0)), some (ii (x1)), some (ii (x2)), none] [] (cz z) := by
  unfold L_X5_quoted_9 at H
  refine j_iload_n (dk dt_X5_quoted 7 rfl) rfl ?_
  refine j_aload_n (dk dt_X5_quoted 8 rfl) rfl ?_
  obtain ⟨k_11, H⟩ := H
  refine jz_getI (kz := 8) (dk dt_X5_quoted 9 rfl) fl_X5_42 rfl rfl rfl k_11 ?_
  refine jz_icmp_ge 110 (dk dt_X5_quoted 10 rfl) (by decide) r_x2 (hw.1 _ _) H (fun H => ?_) (fun H => ?_)
  · exact j_el (he0  H ) (And.intro rfl trivial)
  · refine j_aload_n (dk dt_X5_quoted 11 rfl) rfl ?_
    refine jz_getO (kz := 0) (dk dt_X5_quoted 12 rfl) fl_X5_9 rfl rfl rfl k_11 ?_
    refine j_iload_n (dk dt_X5_quoted 13 rfl) rfl ?_
    obtain ⟨a_22, e_22, k_22, H⟩ := H
    obtain ⟨p_22, q_22, H⟩ := H
    refine jz_bald (dk dt_X5_quoted 14 rfl) e_22 k_22 p_22 q_22 hw ?_
    refine j_bipush (v := Int32.ofInt 34) (dk dt_X5_quoted 15 rfl) (by decide) ?_
    refine jz_icmp_ne 67 (dk dt_X5_quoted 16 rfl) (by decide) (hw.1 _ _) (by decide) H (fun H => ?_) (fun H => ?_)
    · exact j_el (he1 _ H r_x2) (And.intro rfl (And.intro rfl (And.intro rfl trivial)))
    · refine j_iload_n (dk dt_X5_quoted 43 rfl) rfl ?_
      refine j_iload_n (dk dt_X5_quoted 44 rfl) rfl ?_
      refine jz_isub (dk dt_X5_quoted 45 rfl) ?_
      refine j_bipush (v := Int32.ofInt 24) (dk dt_X5_quoted 46 rfl) (by decide) ?_
      refine jz_icmp_ne 85 (dk dt_X5_quoted 47 rfl) (by decide) (r32_w _) (by decide) H (fun H => ?_) (fun H => ?_)
      · exact j_el (he2  H ) (And.intro rfl trivial)
      · refine j_aload_n (dk dt_X5_quoted 54 rfl) rfl ?_
        refine jz_getO (kz := 0) (dk dt_X5_quoted 55 rfl) fl_X5_9 rfl rfl rfl k_11 ?_
        refine j_iload_n (dk dt_X5_quoted 56 rfl) rfl ?_
        refine jz_bald (dk dt_X5_quoted 57 rfl) e_22 k_22 p_22 q_22 hw ?_
        refine j_callSN1 (dk dt_X5_quoted 58 rfl) snl_X5_58 (T_X11_isPlain (hw.1 _ _) H) rfl (by decide) (Nat.zero_le _) (Nat.zero_le _) (Nat.le_of_ble_eq_true rfl) (fun v_91 h_91 P_91 => ?_)
        obtain ⟨x_91, rfl, r_91, rfl, H⟩ := P_91
        dsimp only [rs]
        refine jz_if_ne 104 (dk dt_X5_quoted 59 rfl) (by decide) r_91 H (fun H => ?_) (fun H => ?_)
        · exact j_el (he3 _ H r_x2) (And.intro rfl (And.intro rfl trivial))
        · refine jz_iinc (dk dt_X5_quoted 65 rfl) rfl ?_
          refine j_goto 9 (dk dt_X5_quoted 66 rfl) (by decide) ?_
          exact j_el (hl _ H (r32_w _)) (And.intro rfl (And.intro rfl (And.intro rfl trivial)))
def F_X5_quoted_9  (t0 : Nat) (x1 : Int) (x2 : Int) (z : Z) (c : Nat) (s : Nat) (P : Z → Prop) : Prop :=
  lp (S := Int) (E := (Unit) ⊕ (Int) ⊕ (Unit) ⊕ (Int)) (fun q P_ => L_X5_quoted_9 t0 x1 q z c s P_) x2 (fun e => match e with | (.inl _) => (zK z t0 = 6 ∧ F_X5_fail t0 1 (zI z t0 3) z (fun z_116 => P z_116)) | (.inr (.inl x2)) => (1 ≤ c ∧ 4 ≤ s ∧ ∀ a_28, zK z a_28 = 0 → (∀ z_28, z_28 = nZ z a_28 9 0 → (∃ c_35 s_35, c_35 ≤ c - 1 ∧ s_35 ≤ s - 4 ∧ F_X8_init a_28 (w32 (x2 - x1)) z_28 c_35 s_35 (fun z_35 => (zK z_35 t0 = 6 ∧ (zK z_35 a_28 = 9 ∧ F_X8_setBytes a_28 (zO z_35 t0 0) x1 (w32 (x2 - x1)) z_35 (fun z_48 => (zK z_48 t0 = 6 ∧ (∀ z_55, z_55 = wI z_48 t0 9 (w32 (x2 + 1)) → (∃ c_63 s_63, c_63 ≤ (c - 1) - c_35 ∧ s_63 ≤ (s - 4) - s_35 ∧ F_X5_addPart t0 14 0 (some a_28) z_55 c_63 s_63 (fun z_63 => P z_63))))))))))) | (.inr (.inr (.inl _))) => (zK z t0 = 6 ∧ F_X5_fail t0 1 (zI z t0 9) z (fun z_81 => P z_81)) | (.inr (.inr (.inr x2))) => (zK z t0 = 6 ∧ F_X5_fail t0 1 x2 z (fun z_100 => P z_100)))
theorem T_X5_quoted_9  {t0 : Nat} {x1 : Int} {x2 : Int} {z : Z} {c : Nat} {s : Nat} {P : Z → Prop} (r_x1 : R32 x1) (r_x2 : R32 x2) (hw : Wz z)   (H : F_X5_quoted_9 t0 x1 x2 z c s P) : J mX5_quoted 6 c s (nx (QZV P)) 9 [some (vr (some t0)), some (ii (x1)), some (ii (x2)), none] [] (cz z) := by
  unfold F_X5_quoted_9 at H
  refine lp_J (G := fun q => R32 (q) → J mX5_quoted 6 c s (nx (QZV P)) 9 [some (vr (some t0)), some (ii (x1)), some (ii ((q))), none] [] (cz z)) (fun x2 P_ hl_ he_ Hb => ?_) x2 H r_x2
  intro r_x2
  refine U_X5_quoted_9 (P := P_) r_x1 r_x2 hw  (fun x2 Hp r_x2 => hl_ x2 Hp r_x2) ?_ ?_ ?_ ?_ Hb
  · intro Hp
    have H := he_ _ Hp
    refine j_aload_n (dk dt_X5_quoted 67 rfl) rfl ?_
    refine j_iconst (v := Int32.ofInt 1) (dk dt_X5_quoted 68 rfl) (by decide) ?_
    refine j_aload_n (dk dt_X5_quoted 69 rfl) rfl ?_
    obtain ⟨k_113, H⟩ := H
    refine jz_getI (kz := 3) (dk dt_X5_quoted 70 rfl) fl_X5_24 rfl rfl rfl k_113 ?_
    refine jz_callV2 (dk dt_X5_quoted 71 rfl) vl_X5_62 rfl (T_X5_fail (by decide) (hw.1 _ _) hw H) k_113 rfl (by decide) (Nat.zero_le _) (Nat.zero_le _) (Nat.le_of_ble_eq_true rfl) (fun v_116 h_116 P_116 => ?_)
    obtain ⟨z_116, rfl, rfl, w_116, H⟩ := P_116
    dsimp only [rs]
    exact j_return (dk dt_X5_quoted 72 rfl) rfl ⟨_, rfl, rfl, w_116, H⟩
  · intro x2 Hp r_x2
    have H := he_ _ Hp
    obtain ⟨hc_28, hs_28, H⟩ := H
    refine jz_new (dk dt_X5_quoted 17 rfl) cl_8 nl_X5_66 iw_8 zw_8 rfl hc_28 hs_28 hw (fun a_28 e_28 w_28 => ?_)
    replace H := H a_28 e_28
    replace H := H _ rfl
    refine j_dup (dk dt_X5_quoted 18 rfl) rfl ?_
    refine j_iload_n (dk dt_X5_quoted 19 rfl) rfl ?_
    refine j_iload_n (dk dt_X5_quoted 20 rfl) rfl ?_
    refine jz_isub (dk dt_X5_quoted 21 rfl) ?_
    obtain ⟨c_35, s_35, hc_35, hs_35, H⟩ := H
    refine jz_callI1 (dk dt_X5_quoted 22 rfl) il_X5_68 rfl (T_X8_init (r32_w _) w_28 H) rfl (by decide) hc_35 hs_35 (Nat.le_of_ble_eq_true rfl) (fun v_35 h_35 P_35 => ?_)
    obtain ⟨z_35, rfl, rfl, w_35, H⟩ := P_35
    dsimp only [rs]
    refine j_astore_n (dk dt_X5_quoted 23 rfl) (by decide) ?_
    refine j_aload_n (dk dt_X5_quoted 24 rfl) rfl ?_
    refine j_aload_n (dk dt_X5_quoted 25 rfl) rfl ?_
    obtain ⟨k_41, H⟩ := H
    refine jz_getO (kz := 0) (dk dt_X5_quoted 26 rfl) fl_X5_9 rfl rfl rfl k_41 ?_
    refine j_iload_n (dk dt_X5_quoted 27 rfl) rfl ?_
    refine j_iload_n (dk dt_X5_quoted 28 rfl) rfl ?_
    refine j_iload_n (dk dt_X5_quoted 29 rfl) rfl ?_
    refine jz_isub (dk dt_X5_quoted 30 rfl) ?_
    obtain ⟨k_48, H⟩ := H
    refine jz_callV3 (dk dt_X5_quoted 31 rfl) vl_X5_90 rfl (T_X8_setBytes r_x1 (r32_w _) w_35 H) k_48 rfl (by decide) (Nat.zero_le _) (Nat.zero_le _) (Nat.le_of_ble_eq_true rfl) (fun v_48 h_48 P_48 => ?_)
    obtain ⟨z_48, rfl, rfl, w_48, H⟩ := P_48
    dsimp only [rs]
    refine j_aload_n (dk dt_X5_quoted 32 rfl) rfl ?_
    refine j_iload_n (dk dt_X5_quoted 33 rfl) rfl ?_
    refine j_iconst (v := Int32.ofInt 1) (dk dt_X5_quoted 34 rfl) (by decide) ?_
    refine jz_iadd (dk dt_X5_quoted 35 rfl) ?_
    obtain ⟨k_55, H⟩ := H
    refine jz_putI (kz := 9) (dk dt_X5_quoted 36 rfl) fl_X5_112 rfl rfl rfl rfl rfl k_55 w_48 (r32_w _) (fun w_55 => ?_)
    replace H := H _ rfl
    refine j_aload_n (dk dt_X5_quoted 37 rfl) rfl ?_
    refine j_bipush (v := Int32.ofInt 14) (dk dt_X5_quoted 38 rfl) (by decide) ?_
    refine j_iconst (v := Int32.ofInt 0) (dk dt_X5_quoted 39 rfl) (by decide) ?_
    refine j_aload_n (dk dt_X5_quoted 40 rfl) rfl ?_
    obtain ⟨c_63, s_63, hc_63, hs_63, H⟩ := H
    refine jz_callV3 (dk dt_X5_quoted 41 rfl) vl_X5_143 rfl (T_X5_addPart (by decide) (by decide) w_55 H) k_55 rfl (by decide) hc_63 hs_63 (Nat.le_of_ble_eq_true rfl) (fun v_63 h_63 P_63 => ?_)
    obtain ⟨z_63, rfl, rfl, w_63, H⟩ := P_63
    dsimp only [rs]
    exact j_return (dk dt_X5_quoted 42 rfl) rfl ⟨_, rfl, rfl, w_63, H⟩
  · intro Hp
    have H := he_ _ Hp
    refine j_aload_n (dk dt_X5_quoted 48 rfl) rfl ?_
    refine j_iconst (v := Int32.ofInt 1) (dk dt_X5_quoted 49 rfl) (by decide) ?_
    refine j_aload_n (dk dt_X5_quoted 50 rfl) rfl ?_
    obtain ⟨k_78, H⟩ := H
    refine jz_getI (kz := 9) (dk dt_X5_quoted 51 rfl) fl_X5_112 rfl rfl rfl k_78 ?_
    refine jz_callV2 (dk dt_X5_quoted 52 rfl) vl_X5_62 rfl (T_X5_fail (by decide) (hw.1 _ _) hw H) k_78 rfl (by decide) (Nat.zero_le _) (Nat.zero_le _) (Nat.le_of_ble_eq_true rfl) (fun v_81 h_81 P_81 => ?_)
    obtain ⟨z_81, rfl, rfl, w_81, H⟩ := P_81
    dsimp only [rs]
    exact j_return (dk dt_X5_quoted 53 rfl) rfl ⟨_, rfl, rfl, w_81, H⟩
  · intro x2 Hp r_x2
    have H := he_ _ Hp
    refine j_aload_n (dk dt_X5_quoted 60 rfl) rfl ?_
    refine j_iconst (v := Int32.ofInt 1) (dk dt_X5_quoted 61 rfl) (by decide) ?_
    refine j_iload_n (dk dt_X5_quoted 62 rfl) rfl ?_
    obtain ⟨k_100, H⟩ := H
    refine jz_callV2 (dk dt_X5_quoted 63 rfl) vl_X5_62 rfl (T_X5_fail (by decide) r_x2 hw H) k_100 rfl (by decide) (Nat.zero_le _) (Nat.zero_le _) (Nat.le_of_ble_eq_true rfl) (fun v_100 h_100 P_100 => ?_)
    obtain ⟨z_100, rfl, rfl, w_100, H⟩ := P_100
    dsimp only [rs]
    exact j_return (dk dt_X5_quoted 64 rfl) rfl ⟨_, rfl, rfl, w_100, H⟩
def F_X5_quoted  (t0 : Nat) (z : Z) (c : Nat) (s : Nat) (P : Z → Prop) : Prop :=
  (zK z t0 = 6 ∧ F_X5_quoted_9 t0 (w32 (zI z t0 9 + 1)) (w32 (zI z t0 9 + 1)) z c s P)
theorem T_X5_quoted  {t0 : Nat} {z : Z} {c : Nat} {s : Nat} {P : Z → Prop}  (hw : Wz z)  (H : F_X5_quoted t0 z c s P) : Con mX5_quoted 6 c s [vr (some t0)] (cz z) (QZV P) := by
  refine con_of rfl (Nat.le_of_ble_eq_true rfl) (by decide) ?_
  show J mX5_quoted 6 c s _ 0 [some (vr (some t0)), none, none, none] [] (cz z)
  unfold F_X5_quoted at H
  refine j_aload_n (dk dt_X5_quoted 0 rfl) rfl ?_
  obtain ⟨k_1, H⟩ := H
  refine jz_getI (kz := 9) (dk dt_X5_quoted 1 rfl) fl_X5_112 rfl rfl rfl k_1 ?_
  refine j_iconst (v := Int32.ofInt 1) (dk dt_X5_quoted 2 rfl) (by decide) ?_
  refine jz_iadd (dk dt_X5_quoted 3 rfl) ?_
  refine j_istore_n (dk dt_X5_quoted 4 rfl) (by decide) ?_
  refine j_iload_n (dk dt_X5_quoted 5 rfl) rfl ?_
  refine j_istore_n (dk dt_X5_quoted 6 rfl) (by decide) ?_
  exact j_el (T_X5_quoted_9 (r32_w _) (r32_w _) hw   H) (And.intro rfl (And.intro rfl (And.intro rfl trivial)))
def F_X5_spot  (t0 : Nat) (z : Z) (c : Nat) (s : Nat) (P : Z → Prop) : Prop :=
  (zK z t0 = 6 ∧ (1 ≤ c ∧ 9 ≤ s ∧ ∀ a_5, zK z a_5 = 0 → (∀ z_5, z_5 = nZ z a_5 5 0 → F_X4_init a_5 16 0 none z_5 (fun z_13 => (zK z_13 t0 = 6 ∧ F_X5_takeFirstCorner t0 (some a_5) z_13 (fun z_19 => (zK z_19 t0 = 6 ∧ F_X5_byteAt t0 (zI z_19 t0 9) z_19 (fun x_27 => (if x_27 = 58 then F_X5_fail t0 1 (zI z_19 t0 9) z_19 (fun z_41 => P z_41) else F_X5_readVersion t0 (some a_5) z_19 (fun z_47 => (zK z_47 t0 = 6 ∧ F_X5_settle t0 (some a_5) (zI z t0 9) z_47 (fun z_53 => P z_53))))))))))))
theorem T_X5_spot  {t0 : Nat} {z : Z} {c : Nat} {s : Nat} {P : Z → Prop}  (hw : Wz z)  (H : F_X5_spot t0 z c s P) : Con mX5_spot 5 c s [vr (some t0)] (cz z) (QZV P) := by
  refine con_of rfl (Nat.le_of_ble_eq_true rfl) (by decide) ?_
  show J mX5_spot 5 c s _ 0 [some (vr (some t0)), none, none] [] (cz z)
  unfold F_X5_spot at H
  refine j_aload_n (dk dt_X5_spot 0 rfl) rfl ?_
  obtain ⟨k_1, H⟩ := H
  refine jz_getI (kz := 9) (dk dt_X5_spot 1 rfl) fl_X5_112 rfl rfl rfl k_1 ?_
  refine j_istore_n (dk dt_X5_spot 2 rfl) (by decide) ?_
  obtain ⟨hc_5, hs_5, H⟩ := H
  refine jz_new (dk dt_X5_spot 3 rfl) cl_4 nl_X5_15 iw_4 zw_4 rfl hc_5 hs_5 hw (fun a_5 e_5 w_5 => ?_)
  replace H := H a_5 e_5
  replace H := H _ rfl
  refine j_dup (dk dt_X5_spot 4 rfl) rfl ?_
  refine j_bipush (v := Int32.ofInt 16) (dk dt_X5_spot 5 rfl) (by decide) ?_
  refine j_iconst (v := Int32.ofInt 0) (dk dt_X5_spot 6 rfl) (by decide) ?_
  refine j_null (dk dt_X5_spot 7 rfl) ?_
  refine jz_callI3 (dk dt_X5_spot 8 rfl) il_X5_121 rfl (T_X4_init (by decide) (by decide) w_5 H) rfl (by decide) (Nat.zero_le _) (Nat.zero_le _) (Nat.le_of_ble_eq_true rfl) (fun v_13 h_13 P_13 => ?_)
  obtain ⟨z_13, rfl, rfl, w_13, H⟩ := P_13
  dsimp only [rs]
  refine j_astore_n (dk dt_X5_spot 9 rfl) (by decide) ?_
  refine j_aload_n (dk dt_X5_spot 10 rfl) rfl ?_
  refine j_aload_n (dk dt_X5_spot 11 rfl) rfl ?_
  obtain ⟨k_19, H⟩ := H
  refine jz_callV1 (dk dt_X5_spot 12 rfl) vl_X5_203 rfl (T_X5_takeFirstCorner w_13 H) k_19 rfl (by decide) (Nat.zero_le _) (Nat.zero_le _) (Nat.le_of_ble_eq_true rfl) (fun v_19 h_19 P_19 => ?_)
  obtain ⟨z_19, rfl, rfl, w_19, H⟩ := P_19
  dsimp only [rs]
  refine j_aload_n (dk dt_X5_spot 13 rfl) rfl ?_
  refine j_aload_n (dk dt_X5_spot 14 rfl) rfl ?_
  obtain ⟨k_24, H⟩ := H
  refine jz_getI (kz := 9) (dk dt_X5_spot 15 rfl) fl_X5_112 rfl rfl rfl k_24 ?_
  refine jz_callV1 (dk dt_X5_spot 16 rfl) vl_X5_146 rfl (T_X5_byteAt (w_19.1 _ _) w_19 H) k_24 rfl (by decide) (Nat.zero_le _) (Nat.zero_le _) (Nat.le_of_ble_eq_true rfl) (fun v_27 h_27 P_27 => ?_)
  obtain ⟨x_27, rfl, r_27, rfl, H⟩ := P_27
  dsimp only [rs]
  refine j_bipush (v := Int32.ofInt 58) (dk dt_X5_spot 17 rfl) (by decide) ?_
  refine jz_icmp_ne 45 (dk dt_X5_spot 18 rfl) (by decide) r_27 (by decide) H (fun H => ?_) (fun H => ?_)
  · refine j_aload_n (dk dt_X5_spot 19 rfl) rfl ?_
    refine j_iconst (v := Int32.ofInt 1) (dk dt_X5_spot 20 rfl) (by decide) ?_
    refine j_aload_n (dk dt_X5_spot 21 rfl) rfl ?_
    refine jz_getI (kz := 9) (dk dt_X5_spot 22 rfl) fl_X5_112 rfl rfl rfl k_24 ?_
    refine jz_callV2 (dk dt_X5_spot 23 rfl) vl_X5_62 rfl (T_X5_fail (by decide) (w_19.1 _ _) w_19 H) k_24 rfl (by decide) (Nat.zero_le _) (Nat.zero_le _) (Nat.le_of_ble_eq_true rfl) (fun v_41 h_41 P_41 => ?_)
    obtain ⟨z_41, rfl, rfl, w_41, H⟩ := P_41
    dsimp only [rs]
    exact j_return (dk dt_X5_spot 24 rfl) rfl ⟨_, rfl, rfl, w_41, H⟩
  · refine j_aload_n (dk dt_X5_spot 25 rfl) rfl ?_
    refine j_aload_n (dk dt_X5_spot 26 rfl) rfl ?_
    refine jz_callV1 (dk dt_X5_spot 27 rfl) vl_X5_207 rfl (T_X5_readVersion w_19 H) k_24 rfl (by decide) (Nat.zero_le _) (Nat.zero_le _) (Nat.le_of_ble_eq_true rfl) (fun v_47 h_47 P_47 => ?_)
    obtain ⟨z_47, rfl, rfl, w_47, H⟩ := P_47
    dsimp only [rs]
    refine j_aload_n (dk dt_X5_spot 28 rfl) rfl ?_
    refine j_aload_n (dk dt_X5_spot 29 rfl) rfl ?_
    refine j_iload_n (dk dt_X5_spot 30 rfl) rfl ?_
    obtain ⟨k_53, H⟩ := H
    refine jz_callV2 (dk dt_X5_spot 31 rfl) vl_X5_210 rfl (T_X5_settle (hw.1 _ _) w_47 H) k_53 rfl (by decide) (Nat.zero_le _) (Nat.zero_le _) (Nat.le_of_ble_eq_true rfl) (fun v_53 h_53 P_53 => ?_)
    obtain ⟨z_53, rfl, rfl, w_53, H⟩ := P_53
    dsimp only [rs]
    exact j_return (dk dt_X5_spot 32 rfl) rfl ⟨_, rfl, rfl, w_53, H⟩
def F_X5_signOfTwo_78  (t0 : Nat) (x1 : Int) (x2 : Int) (z : Z) (P : (Int × Int) ⊕ ((Int) ⊕ (Int)) → Prop) : Prop :=
  P (.inl (x1, w32 (x2 + 1)))
theorem T_X5_signOfTwo_78  {t0 : Nat} {x1 : Int} {x2 : Int} {z : Z} {P : (Int × Int) ⊕ ((Int) ⊕ (Int)) → Prop} {post : Option Sv ⊕ String → Hp → Prop} (r_x1 : R32 x1) (r_x2 : R32 x2) (hw : Wz z)  (hl : ∀ (x1 : Int) (x2 : Int), P (.inl (x1, x2)) → R32 x1 → R32 x2 → J mX5_signOfTwo 7 0 0 post 4 [some (vr (some t0)), some (ii (x1)), some (ii (x2)), none] [] (cz z)) (he0 : ∀ (x1 : Int), P (.inr (.inl x1)) → R32 x1 → J mX5_signOfTwo 7 0 0 post 84 [none, some (ii (x1)), none, none] [] (cz z)) (he1 : ∀ (x2 : Int), P (.inr (.inr x2)) → R32 x2 → J mX5_signOfTwo 7 0 0 post 64 [none, none, some (ii (x2)), none] [] (cz z)) (H : F_X5_signOfTwo_78 t0 x1 x2 z P) : J mX5_signOfTwo 7 0 0 (post) 78 [some (vr (some t0)), some (ii (x1)), some (ii (x2)), none] [] (cz z) := by
  unfold F_X5_signOfTwo_78 at H
  refine jz_iinc (dk dt_X5_signOfTwo 49 rfl) rfl ?_
  refine j_goto 4 (dk dt_X5_signOfTwo 50 rfl) (by decide) ?_
  exact j_el (hl _ _ H r_x1 (r32_w _)) (And.intro rfl (And.intro rfl (And.intro rfl trivial)))
def F_X5_signOfTwo_77  (t0 : Nat) (x2 : Int) (s0 : Int) (z : Z) (P : (Int × Int) ⊕ ((Int) ⊕ (Int)) → Prop) : Prop :=
  F_X5_signOfTwo_78 t0 s0 x2 z P
theorem T_X5_signOfTwo_77  {t0 : Nat} {x2 : Int} {s0 : Int} {z : Z} {P : (Int × Int) ⊕ ((Int) ⊕ (Int)) → Prop} {post : Option Sv ⊕ String → Hp → Prop} (r_x2 : R32 x2) (r_s0 : R32 s0) (hw : Wz z)  (hl : ∀ (x1 : Int) (x2 : Int), P (.inl (x1, x2)) → R32 x1 → R32 x2 → J mX5_signOfTwo 7 0 0 post 4 [some (vr (some t0)), some (ii (x1)), some (ii (x2)), none] [] (cz z)) (he0 : ∀ (x1 : Int), P (.inr (.inl x1)) → R32 x1 → J mX5_signOfTwo 7 0 0 post 84 [none, some (ii (x1)), none, none] [] (cz z)) (he1 : ∀ (x2 : Int), P (.inr (.inr x2)) → R32 x2 → J mX5_signOfTwo 7 0 0 post 64 [none, none, some (ii (x2)), none] [] (cz z)) (H : F_X5_signOfTwo_77 t0 x2 s0 z P) : J mX5_signOfTwo 7 0 0 (post) 77 [some (vr (some t0)), none, some (ii (x2)), none] [ii (s0)] (cz z) := by
  unfold F_X5_signOfTwo_77 at H
  refine j_istore_n (dk dt_X5_signOfTwo 48 rfl) (by decide) ?_
  exact j_el (T_X5_signOfTwo_78 r_s0 r_x2 hw  hl he0 he1 H) (And.intro rfl (And.intro rfl (And.intro rfl trivial)))
def F_X5_signOfTwo_66  (t0 : Nat) (x1 : Int) (x2 : Int) (x3 : Int) (z : Z) (P : (Int × Int) ⊕ ((Int) ⊕ (Int)) → Prop) : Prop :=
  (if x3 = 32 then F_X5_signOfTwo_77 t0 x2 x2 z P else F_X5_signOfTwo_77 t0 x2 x1 z P)
theorem T_X5_signOfTwo_66  {t0 : Nat} {x1 : Int} {x2 : Int} {x3 : Int} {z : Z} {P : (Int × Int) ⊕ ((Int) ⊕ (Int)) → Prop} {post : Option Sv ⊕ String → Hp → Prop} (r_x1 : R32 x1) (r_x2 : R32 x2) (r_x3 : R32 x3) (hw : Wz z)  (hl : ∀ (x1 : Int) (x2 : Int), P (.inl (x1, x2)) → R32 x1 → R32 x2 → J mX5_signOfTwo 7 0 0 post 4 [some (vr (some t0)), some (ii (x1)), some (ii (x2)), none] [] (cz z)) (he0 : ∀ (x1 : Int), P (.inr (.inl x1)) → R32 x1 → J mX5_signOfTwo 7 0 0 post 84 [none, some (ii (x1)), none, none] [] (cz z)) (he1 : ∀ (x2 : Int), P (.inr (.inr x2)) → R32 x2 → J mX5_signOfTwo 7 0 0 post 64 [none, none, some (ii (x2)), none] [] (cz z)) (H : F_X5_signOfTwo_66 t0 x1 x2 x3 z P) : J mX5_signOfTwo 7 0 0 (post) 66 [some (vr (some t0)), some (ii (x1)), some (ii (x2)), some (ii (x3))] [] (cz z) := by
  unfold F_X5_signOfTwo_66 at H
  refine j_iload_n (dk dt_X5_signOfTwo 42 rfl) rfl ?_
  refine j_bipush (v := Int32.ofInt 32) (dk dt_X5_signOfTwo 43 rfl) (by decide) ?_
  refine jz_icmp_ne 76 (dk dt_X5_signOfTwo 44 rfl) (by decide) r_x3 (by decide) H (fun H => ?_) (fun H => ?_)
  · refine j_iload_n (dk dt_X5_signOfTwo 45 rfl) rfl ?_
    refine j_goto 77 (dk dt_X5_signOfTwo 46 rfl) (by decide) ?_
    exact j_el (T_X5_signOfTwo_77 r_x2 r_x2 hw  hl he0 he1 H) (And.intro rfl (And.intro rfl trivial))
  · refine j_iload_n (dk dt_X5_signOfTwo 47 rfl) rfl ?_
    exact j_el (T_X5_signOfTwo_77 r_x2 r_x1 hw  hl he0 he1 H) (And.intro rfl (And.intro rfl trivial))
def L_X5_signOfTwo_4  (t0 : Nat) (x1 : Int) (x2 : Int) (z : Z) (P : (Int × Int) ⊕ ((Int) ⊕ (Int)) → Prop) : Prop :=
  (if 12 < x2 then P (.inr (.inl x1)) else (0 ≤ w32 (w32 ((w32 (x2 - 1)) * 2) + 1) ∧ w32 (w32 ((w32 (x2 - 1)) * 2) + 1) < sLen 9 ∧ (0 ≤ w32 ((w32 (x2 - 1)) * 2) ∧ w32 ((w32 (x2 - 1)) * 2) < sLen 9 ∧ (zK z t0 = 6 ∧ F_X5_byteAt t0 (zI z t0 9) z (fun x_38 => (if sCh 9 (w32 ((w32 (x2 - 1)) * 2)) = x_38 then F_X5_byteAt t0 (w32 (zI z t0 9 + 1)) z (fun x_52 => (if sCh 9 (w32 (w32 ((w32 (x2 - 1)) * 2) + 1)) = x_52 then (if sCh 9 (w32 (w32 ((w32 (x2 - 1)) * 2) + 1)) = 32 then F_X5_signOfTwo_66 t0 x1 x2 (sCh 9 (w32 (w32 ((w32 (x2 - 1)) * 2) + 1))) z P else P (.inr (.inr x2))) else F_X5_signOfTwo_66 t0 x1 x2 (sCh 9 (w32 (w32 ((w32 (x2 - 1)) * 2) + 1))) z P)) else F_X5_signOfTwo_78 t0 x1 x2 z P))))))
theorem U_X5_signOfTwo_4  {t0 : Nat} {x1 : Int} {x2 : Int} {z : Z} {P : (Int × Int) ⊕ ((Int) ⊕ (Int)) → Prop} {post : Option Sv ⊕ String → Hp → Prop} (r_x1 : R32 x1) (r_x2 : R32 x2) (hw : Wz z)  (hl : ∀ (x1 : Int) (x2 : Int), P (.inl (x1, x2)) → R32 x1 → R32 x2 → J mX5_signOfTwo 7 0 0 post 4 [some (vr (some t0)), some (ii (x1)), some (ii (x2)), none] [] (cz z)) (he0 : ∀ (x1 : Int), P (.inr (.inl x1)) → R32 x1 → J mX5_signOfTwo 7 0 0 post 84 [none, some (ii (x1)), none, none] [] (cz z)) (he1 : ∀ (x2 : Int), P (.inr (.inr x2)) → R32 x2 → J mX5_signOfTwo 7 0 0 post 64 [none, none, some (ii (x2)), none] [] (cz z)) (H : L_X5_signOfTwo_4 t0 x1 x2 z P) : J mX5_signOfTwo 7 0 0 post 4 [some (vr (some t0)), some (ii (x1)), some (ii (x2)), none] [] (cz z) := by
  unfold L_X5_signOfTwo_4 at H
  refine j_iload_n (dk dt_X5_signOfTwo 4 rfl) rfl ?_
  refine j_bipush (v := Int32.ofInt 12) (dk dt_X5_signOfTwo 5 rfl) (by decide) ?_
  refine jz_icmp_gt 84 (dk dt_X5_signOfTwo 6 rfl) (by decide) r_x2 (by decide) H (fun H => ?_) (fun H => ?_)
  · exact j_el (he0 _ H r_x1) (And.intro rfl trivial)
  · refine j_ldcS 9 rfl (dk dt_X5_signOfTwo 7 rfl) rfl rfl ?_
    refine j_iload_n (dk dt_X5_signOfTwo 8 rfl) rfl ?_
    refine j_iconst (v := Int32.ofInt 1) (dk dt_X5_signOfTwo 9 rfl) (by decide) ?_
    refine jz_isub (dk dt_X5_signOfTwo 10 rfl) ?_
    refine j_iconst (v := Int32.ofInt 2) (dk dt_X5_signOfTwo 11 rfl) (by decide) ?_
    refine jz_imul (dk dt_X5_signOfTwo 12 rfl) ?_
    refine j_iconst (v := Int32.ofInt 1) (dk dt_X5_signOfTwo 13 rfl) (by decide) ?_
    refine jz_iadd (dk dt_X5_signOfTwo 14 rfl) ?_
    obtain ⟨p_19, q_19, H⟩ := H
    refine jz_scharAt (dk dt_X5_signOfTwo 15 rfl) sv_X5_137 (by decide) p_19 q_19 (by decide) (Nat.le_of_ble_eq_true rfl) ?_
    refine j_istore_n (dk dt_X5_signOfTwo 16 rfl) (by decide) ?_
    refine j_ldcS 9 rfl (dk dt_X5_signOfTwo 17 rfl) rfl rfl ?_
    refine j_iload_n (dk dt_X5_signOfTwo 18 rfl) rfl ?_
    refine j_iconst (v := Int32.ofInt 1) (dk dt_X5_signOfTwo 19 rfl) (by decide) ?_
    refine jz_isub (dk dt_X5_signOfTwo 20 rfl) ?_
    refine j_iconst (v := Int32.ofInt 2) (dk dt_X5_signOfTwo 21 rfl) (by decide) ?_
    refine jz_imul (dk dt_X5_signOfTwo 22 rfl) ?_
    obtain ⟨p_30, q_30, H⟩ := H
    refine jz_scharAt (dk dt_X5_signOfTwo 23 rfl) sv_X5_137 (by decide) p_30 q_30 (by decide) (Nat.le_of_ble_eq_true rfl) ?_
    refine j_aload_n (dk dt_X5_signOfTwo 24 rfl) rfl ?_
    refine j_aload_n (dk dt_X5_signOfTwo 25 rfl) rfl ?_
    obtain ⟨k_35, H⟩ := H
    refine jz_getI (kz := 9) (dk dt_X5_signOfTwo 26 rfl) fl_X5_112 rfl rfl rfl k_35 ?_
    refine jz_callV1 (dk dt_X5_signOfTwo 27 rfl) vl_X5_146 rfl (T_X5_byteAt (hw.1 _ _) hw H) k_35 rfl (by decide) (Nat.zero_le _) (Nat.zero_le _) (Nat.le_of_ble_eq_true rfl) (fun v_38 h_38 P_38 => ?_)
    obtain ⟨x_38, rfl, r_38, rfl, H⟩ := P_38
    dsimp only [rs]
    refine jz_icmp_ne 78 (dk dt_X5_signOfTwo 28 rfl) (by decide) (r32_sCh _ _) r_38 H (fun H => ?_) (fun H => ?_)
    · refine j_iload_n (dk dt_X5_signOfTwo 29 rfl) rfl ?_
      refine j_aload_n (dk dt_X5_signOfTwo 30 rfl) rfl ?_
      refine j_aload_n (dk dt_X5_signOfTwo 31 rfl) rfl ?_
      refine jz_getI (kz := 9) (dk dt_X5_signOfTwo 32 rfl) fl_X5_112 rfl rfl rfl k_35 ?_
      refine j_iconst (v := Int32.ofInt 1) (dk dt_X5_signOfTwo 33 rfl) (by decide) ?_
      refine jz_iadd (dk dt_X5_signOfTwo 34 rfl) ?_
      refine jz_callV1 (dk dt_X5_signOfTwo 35 rfl) vl_X5_146 rfl (T_X5_byteAt (r32_w _) hw H) k_35 rfl (by decide) (Nat.zero_le _) (Nat.zero_le _) (Nat.le_of_ble_eq_true rfl) (fun v_52 h_52 P_52 => ?_)
      obtain ⟨x_52, rfl, r_52, rfl, H⟩ := P_52
      dsimp only [rs]
      refine jz_icmp_ne 66 (dk dt_X5_signOfTwo 36 rfl) (by decide) (r32_sCh _ _) r_52 H (fun H => ?_) (fun H => ?_)
      · refine j_iload_n (dk dt_X5_signOfTwo 37 rfl) rfl ?_
        refine j_bipush (v := Int32.ofInt 32) (dk dt_X5_signOfTwo 38 rfl) (by decide) ?_
        refine jz_icmp_eq 66 (dk dt_X5_signOfTwo 39 rfl) (by decide) (r32_sCh _ _) (by decide) H (fun H => ?_) (fun H => ?_)
        · exact j_el (T_X5_signOfTwo_66 r_x1 r_x2 (r32_sCh _ _) hw  hl he0 he1 H) (And.intro rfl (And.intro rfl (And.intro rfl (And.intro rfl trivial))))
        · exact j_el (he1 _ H r_x2) (And.intro rfl trivial)
      · exact j_el (T_X5_signOfTwo_66 r_x1 r_x2 (r32_sCh _ _) hw  hl he0 he1 H) (And.intro rfl (And.intro rfl (And.intro rfl (And.intro rfl trivial))))
    · exact j_el (T_X5_signOfTwo_78 r_x1 r_x2 hw  hl he0 he1 H) (And.intro rfl (And.intro rfl (And.intro rfl trivial)))
def F_X5_signOfTwo_4  (t0 : Nat) (x1 : Int) (x2 : Int) (z : Z) (P : Int → Prop) : Prop :=
  lp (S := Int × Int) (E := (Int) ⊕ (Int)) (fun q P_ => L_X5_signOfTwo_4 t0 q.1 q.2 z P_) (x1, x2) (fun e => match e with | (.inl x1) => P x1 | (.inr x2) => P x2)
theorem T_X5_signOfTwo_4  {t0 : Nat} {x1 : Int} {x2 : Int} {z : Z} {P : Int → Prop} (r_x1 : R32 x1) (r_x2 : R32 x2) (hw : Wz z)   (H : F_X5_signOfTwo_4 t0 x1 x2 z P) : J mX5_signOfTwo 7 0 0 (nx (QPI (cz z) P)) 4 [some (vr (some t0)), some (ii (x1)), some (ii (x2)), none] [] (cz z) := by
  unfold F_X5_signOfTwo_4 at H
  refine lp_J (G := fun q => R32 (q.1) → R32 (q.2) → J mX5_signOfTwo 7 0 0 (nx (QPI (cz z) P)) 4 [some (vr (some t0)), some (ii ((q.1))), some (ii ((q.2))), none] [] (cz z)) (fun q P_ hl_ he_ Hb => ?_) (x1, x2) H r_x1 r_x2
  obtain ⟨x1, x2⟩ := q
  intro r_x1 r_x2
  refine U_X5_signOfTwo_4 (P := P_) r_x1 r_x2 hw  (fun x1 x2 Hp r_x1 r_x2 => hl_ (x1, x2) Hp r_x1 r_x2) ?_ ?_ Hb
  · intro x1 Hp r_x1
    have H := he_ _ Hp
    refine j_iload_n (dk dt_X5_signOfTwo 51 rfl) rfl ?_
    exact j_ireturn (dk dt_X5_signOfTwo 52 rfl) rfl rfl ⟨_, rfl, r_x1, rfl, H⟩
  · intro x2 Hp r_x2
    have H := he_ _ Hp
    refine j_iload_n (dk dt_X5_signOfTwo 40 rfl) rfl ?_
    exact j_ireturn (dk dt_X5_signOfTwo 41 rfl) rfl rfl ⟨_, rfl, r_x2, rfl, H⟩
def F_X5_signOfTwo  (t0 : Nat) (z : Z) (P : Int → Prop) : Prop :=
  F_X5_signOfTwo_4 t0 0 1 z P
theorem T_X5_signOfTwo  {t0 : Nat} {z : Z} {P : Int → Prop}  (hw : Wz z)  (H : F_X5_signOfTwo t0 z P) : Con mX5_signOfTwo 7 0 0 [vr (some t0)] (cz z) (QPI (cz z) P) := by
  refine con_of rfl (Nat.le_of_ble_eq_true rfl) (by decide) ?_
  show J mX5_signOfTwo 7 0 0 _ 0 [some (vr (some t0)), none, none, none] [] (cz z)
  unfold F_X5_signOfTwo at H
  refine j_iconst (v := Int32.ofInt 0) (dk dt_X5_signOfTwo 0 rfl) (by decide) ?_
  refine j_istore_n (dk dt_X5_signOfTwo 1 rfl) (by decide) ?_
  refine j_iconst (v := Int32.ofInt 1) (dk dt_X5_signOfTwo 2 rfl) (by decide) ?_
  refine j_istore_n (dk dt_X5_signOfTwo 3 rfl) (by decide) ?_
  exact j_el (T_X5_signOfTwo_4 (by decide) (by decide) hw   H) (And.intro rfl (And.intro rfl (And.intro rfl trivial)))
def L_X5_nameOf_21  (t0 : Nat) (x1 : Int) (x2 : Int) (x3 : Int) (x4 : Int) (x5 : Int) (z : Z) (P : Int ⊕ ((Int)) → Prop) : Prop :=
  (if 8 ≤ x5 then P (.inr x5) else (if x2 ≤ w32 (x1 + x5) then P (.inr x5) else (0 ≤ w32 (x4 + x5) ∧ w32 (x4 + x5) < sLen 8 ∧ (zK z t0 = 6 ∧ (∃ a_55, zO z t0 0 = some a_55 ∧ zK z a_55 = 14 ∧ (0 ≤ w32 (x1 + x5) ∧ w32 (x1 + x5) < zN z a_55 ∧ (if sCh 8 (w32 (x4 + x5)) = zI z a_55 (w32 (x1 + x5)) then P (.inl (w32 (x5 + 1))) else P (.inr x5))))))))
theorem U_X5_nameOf_21  {t0 : Nat} {x1 : Int} {x2 : Int} {x3 : Int} {x4 : Int} {x5 : Int} {z : Z} {P : Int ⊕ ((Int)) → Prop} {post : Option Sv ⊕ String → Hp → Prop} (r_x1 : R32 x1) (r_x2 : R32 x2) (r_x3 : R32 x3) (r_x4 : R32 x4) (r_x5 : R32 x5) (hw : Wz z)  (hl : ∀ (x5 : Int), P (.inl x5) → R32 x5 → J mX5_nameOf 7 0 0 post 21 [some (vr (some t0)), some (ii (x1)), some (ii (x2)), some (ii (x3)), some (ii (x4)), some (ii (x5))] [] (cz z)) (he0 : ∀ (x5 : Int), P (.inr x5) → R32 x5 → J mX5_nameOf 7 0 0 post 65 [some (vr (some t0)), some (ii (x1)), some (ii (x2)), some (ii (x3)), some (ii (x4)), some (ii (x5))] [] (cz z)) (H : L_X5_nameOf_21 t0 x1 x2 x3 x4 x5 z P) : J mX5_nameOf 7 0 0 post 21 [some (vr (some t0)), some (ii (x1)), some (ii (x2)), some (ii (x3)), some (ii (x4)), some (ii (x5))] [] (cz z) := by
  unfold L_X5_nameOf_21 at H
  refine j_iload (dk dt_X5_nameOf 13 rfl) rfl ?_
  refine j_bipush (v := Int32.ofInt 8) (dk dt_X5_nameOf 14 rfl) (by decide) ?_
  refine jz_icmp_ge 65 (dk dt_X5_nameOf 15 rfl) (by decide) r_x5 (by decide) H (fun H => ?_) (fun H => ?_)
  · exact j_el (he0 _ H r_x5) (And.intro rfl (And.intro rfl (And.intro rfl (And.intro rfl (And.intro rfl (And.intro rfl trivial))))))
  · refine j_iload_n (dk dt_X5_nameOf 16 rfl) rfl ?_
    refine j_iload (dk dt_X5_nameOf 17 rfl) rfl ?_
    refine jz_iadd (dk dt_X5_nameOf 18 rfl) ?_
    refine j_iload_n (dk dt_X5_nameOf 19 rfl) rfl ?_
    refine jz_icmp_ge 65 (dk dt_X5_nameOf 20 rfl) (by decide) (r32_w _) r_x2 H (fun H => ?_) (fun H => ?_)
    · exact j_el (he0 _ H r_x5) (And.intro rfl (And.intro rfl (And.intro rfl (And.intro rfl (And.intro rfl (And.intro rfl trivial))))))
    · refine j_ldcwS 8 rfl (dk dt_X5_nameOf 21 rfl) rfl rfl ?_
      refine j_iload (dk dt_X5_nameOf 22 rfl) rfl ?_
      refine j_iload (dk dt_X5_nameOf 23 rfl) rfl ?_
      refine jz_iadd (dk dt_X5_nameOf 24 rfl) ?_
      obtain ⟨p_44, q_44, H⟩ := H
      refine jz_scharAt (dk dt_X5_nameOf 25 rfl) sv_X5_137 (by decide) p_44 q_44 (by decide) (Nat.le_of_ble_eq_true rfl) ?_
      refine j_aload_n (dk dt_X5_nameOf 26 rfl) rfl ?_
      obtain ⟨k_48, H⟩ := H
      refine jz_getO (kz := 0) (dk dt_X5_nameOf 27 rfl) fl_X5_9 rfl rfl rfl k_48 ?_
      refine j_iload_n (dk dt_X5_nameOf 28 rfl) rfl ?_
      refine j_iload (dk dt_X5_nameOf 29 rfl) rfl ?_
      refine jz_iadd (dk dt_X5_nameOf 30 rfl) ?_
      obtain ⟨a_55, e_55, k_55, H⟩ := H
      obtain ⟨p_55, q_55, H⟩ := H
      refine jz_bald (dk dt_X5_nameOf 31 rfl) e_55 k_55 p_55 q_55 hw ?_
      refine jz_icmp_ne 65 (dk dt_X5_nameOf 32 rfl) (by decide) (r32_sCh _ _) (hw.1 _ _) H (fun H => ?_) (fun H => ?_)
      · refine jz_iinc (dk dt_X5_nameOf 33 rfl) rfl ?_
        refine j_goto 21 (dk dt_X5_nameOf 34 rfl) (by decide) ?_
        exact j_el (hl _ H (r32_w _)) (And.intro rfl (And.intro rfl (And.intro rfl (And.intro rfl (And.intro rfl (And.intro rfl trivial))))))
      · exact j_el (he0 _ H r_x5) (And.intro rfl (And.intro rfl (And.intro rfl (And.intro rfl (And.intro rfl (And.intro rfl trivial))))))
def F_X5_nameOf_91  (t0 : Nat) (x1 : Int) (x2 : Int) (x3 : Int) (z : Z) (P : Int ⊕ ((Unit) ⊕ (Int)) → Prop) : Prop :=
  P (.inl (w32 (x3 + 1)))
theorem T_X5_nameOf_91  {t0 : Nat} {x1 : Int} {x2 : Int} {x3 : Int} {z : Z} {P : Int ⊕ ((Unit) ⊕ (Int)) → Prop} {post : Option Sv ⊕ String → Hp → Prop} (r_x1 : R32 x1) (r_x2 : R32 x2) (r_x3 : R32 x3) (hw : Wz z)  (hl : ∀ (x3 : Int), P (.inl x3) → R32 x3 → J mX5_nameOf 7 0 0 post 3 [some (vr (some t0)), some (ii (x1)), some (ii (x2)), some (ii (x3)), none, none] [] (cz z)) (he0 : P (.inr (.inl ())) → J mX5_nameOf 7 0 0 post 97 [none, none, none, none, none, none] [] (cz z)) (he1 : ∀ (x3 : Int), P (.inr (.inr x3)) → R32 x3 → J mX5_nameOf 7 0 0 post 89 [none, none, none, some (ii (x3)), none, none] [] (cz z)) (H : F_X5_nameOf_91 t0 x1 x2 x3 z P) : J mX5_nameOf 7 0 0 (post) 91 [some (vr (some t0)), some (ii (x1)), some (ii (x2)), some (ii (x3)), none, none] [] (cz z) := by
  unfold F_X5_nameOf_91 at H
  refine jz_iinc (dk dt_X5_nameOf 49 rfl) rfl ?_
  refine j_goto 3 (dk dt_X5_nameOf 50 rfl) (by decide) ?_
  exact j_el (hl _ H (r32_w _)) (And.intro rfl (And.intro rfl (And.intro rfl (And.intro rfl trivial))))
def F_X5_nameOf_65  (t0 : Nat) (x1 : Int) (x2 : Int) (x3 : Int) (x4 : Int) (x5 : Int) (z : Z) (P : Int ⊕ ((Unit) ⊕ (Int)) → Prop) : Prop :=
  (if w32 (x1 + x5) = x2 then (0 ≤ w32 (x4 + x5) ∧ w32 (x4 + x5) < sLen 8 ∧ (if sCh 8 (w32 (x4 + x5)) = 32 then P (.inr (.inr x3)) else F_X5_nameOf_91 t0 x1 x2 x3 z P)) else F_X5_nameOf_91 t0 x1 x2 x3 z P)
theorem T_X5_nameOf_65  {t0 : Nat} {x1 : Int} {x2 : Int} {x3 : Int} {x4 : Int} {x5 : Int} {z : Z} {P : Int ⊕ ((Unit) ⊕ (Int)) → Prop} {post : Option Sv ⊕ String → Hp → Prop} (r_x1 : R32 x1) (r_x2 : R32 x2) (r_x3 : R32 x3) (r_x4 : R32 x4) (r_x5 : R32 x5) (hw : Wz z)  (hl : ∀ (x3 : Int), P (.inl x3) → R32 x3 → J mX5_nameOf 7 0 0 post 3 [some (vr (some t0)), some (ii (x1)), some (ii (x2)), some (ii (x3)), none, none] [] (cz z)) (he0 : P (.inr (.inl ())) → J mX5_nameOf 7 0 0 post 97 [none, none, none, none, none, none] [] (cz z)) (he1 : ∀ (x3 : Int), P (.inr (.inr x3)) → R32 x3 → J mX5_nameOf 7 0 0 post 89 [none, none, none, some (ii (x3)), none, none] [] (cz z)) (H : F_X5_nameOf_65 t0 x1 x2 x3 x4 x5 z P) : J mX5_nameOf 7 0 0 (post) 65 [some (vr (some t0)), some (ii (x1)), some (ii (x2)), some (ii (x3)), some (ii (x4)), some (ii (x5))] [] (cz z) := by
  unfold F_X5_nameOf_65 at H
  refine j_iload_n (dk dt_X5_nameOf 35 rfl) rfl ?_
  refine j_iload (dk dt_X5_nameOf 36 rfl) rfl ?_
  refine jz_iadd (dk dt_X5_nameOf 37 rfl) ?_
  refine j_iload_n (dk dt_X5_nameOf 38 rfl) rfl ?_
  refine jz_icmp_ne 91 (dk dt_X5_nameOf 39 rfl) (by decide) (r32_w _) r_x2 H (fun H => ?_) (fun H => ?_)
  · refine j_ldcwS 8 rfl (dk dt_X5_nameOf 40 rfl) rfl rfl ?_
    refine j_iload (dk dt_X5_nameOf 41 rfl) rfl ?_
    refine j_iload (dk dt_X5_nameOf 42 rfl) rfl ?_
    refine jz_iadd (dk dt_X5_nameOf 43 rfl) ?_
    obtain ⟨p_81, q_81, H⟩ := H
    refine jz_scharAt (dk dt_X5_nameOf 44 rfl) sv_X5_137 (by decide) p_81 q_81 (by decide) (Nat.le_of_ble_eq_true rfl) ?_
    refine j_bipush (v := Int32.ofInt 32) (dk dt_X5_nameOf 45 rfl) (by decide) ?_
    refine jz_icmp_ne 91 (dk dt_X5_nameOf 46 rfl) (by decide) (r32_sCh _ _) (by decide) H (fun H => ?_) (fun H => ?_)
    · exact j_el (he1 _ H r_x3) (And.intro rfl trivial)
    · exact j_el (T_X5_nameOf_91 r_x1 r_x2 r_x3 hw  hl he0 he1 H) (And.intro rfl (And.intro rfl (And.intro rfl (And.intro rfl trivial))))
  · exact j_el (T_X5_nameOf_91 r_x1 r_x2 r_x3 hw  hl he0 he1 H) (And.intro rfl (And.intro rfl (And.intro rfl (And.intro rfl trivial))))
def F_X5_nameOf_21  (t0 : Nat) (x1 : Int) (x2 : Int) (x3 : Int) (x4 : Int) (x5 : Int) (z : Z) (P : Int ⊕ ((Unit) ⊕ (Int)) → Prop) : Prop :=
  lp (S := Int) (E := (Int)) (fun q P_ => L_X5_nameOf_21 t0 x1 x2 x3 x4 q z P_) x5 (fun (x5 : Int) => F_X5_nameOf_65 t0 x1 x2 x3 x4 x5 z P)
theorem T_X5_nameOf_21  {t0 : Nat} {x1 : Int} {x2 : Int} {x3 : Int} {x4 : Int} {x5 : Int} {z : Z} {P : Int ⊕ ((Unit) ⊕ (Int)) → Prop} {post : Option Sv ⊕ String → Hp → Prop} (r_x1 : R32 x1) (r_x2 : R32 x2) (r_x3 : R32 x3) (r_x4 : R32 x4) (r_x5 : R32 x5) (hw : Wz z)  (hl : ∀ (x3 : Int), P (.inl x3) → R32 x3 → J mX5_nameOf 7 0 0 post 3 [some (vr (some t0)), some (ii (x1)), some (ii (x2)), some (ii (x3)), none, none] [] (cz z)) (he0 : P (.inr (.inl ())) → J mX5_nameOf 7 0 0 post 97 [none, none, none, none, none, none] [] (cz z)) (he1 : ∀ (x3 : Int), P (.inr (.inr x3)) → R32 x3 → J mX5_nameOf 7 0 0 post 89 [none, none, none, some (ii (x3)), none, none] [] (cz z)) (H : F_X5_nameOf_21 t0 x1 x2 x3 x4 x5 z P) : J mX5_nameOf 7 0 0 (post) 21 [some (vr (some t0)), some (ii (x1)), some (ii (x2)), some (ii (x3)), some (ii (x4)), some (ii (x5))] [] (cz z) := by
  unfold F_X5_nameOf_21 at H
  refine lp_J (G := fun q => R32 (q) → J mX5_nameOf 7 0 0 (post) 21 [some (vr (some t0)), some (ii (x1)), some (ii (x2)), some (ii (x3)), some (ii (x4)), some (ii ((q)))] [] (cz z)) (fun x5 P_ hl_ he_ Hb => ?_) x5 H r_x5
  intro r_x5
  refine U_X5_nameOf_21 (P := P_) r_x1 r_x2 r_x3 r_x4 r_x5 hw  (fun x5 Hp r_x5 => hl_ x5 Hp r_x5) ?_ Hb
  · intro x5 Hp r_x5
    have H := he_ _ Hp
    exact j_el (T_X5_nameOf_65 r_x1 r_x2 r_x3 r_x4 r_x5 hw  hl he0 he1 H) (And.intro rfl (And.intro rfl (And.intro rfl (And.intro rfl (And.intro rfl (And.intro rfl trivial))))))
def L_X5_nameOf_3  (t0 : Nat) (x1 : Int) (x2 : Int) (x3 : Int) (z : Z) (P : Int ⊕ ((Unit) ⊕ (Int)) → Prop) : Prop :=
  (if 35 < x3 then P (.inr (.inl ())) else F_X5_nameOf_21 t0 x1 x2 x3 (w32 ((w32 (x3 - 18)) * 8)) 0 z P)
theorem U_X5_nameOf_3  {t0 : Nat} {x1 : Int} {x2 : Int} {x3 : Int} {z : Z} {P : Int ⊕ ((Unit) ⊕ (Int)) → Prop} {post : Option Sv ⊕ String → Hp → Prop} (r_x1 : R32 x1) (r_x2 : R32 x2) (r_x3 : R32 x3) (hw : Wz z)  (hl : ∀ (x3 : Int), P (.inl x3) → R32 x3 → J mX5_nameOf 7 0 0 post 3 [some (vr (some t0)), some (ii (x1)), some (ii (x2)), some (ii (x3)), none, none] [] (cz z)) (he0 : P (.inr (.inl ())) → J mX5_nameOf 7 0 0 post 97 [none, none, none, none, none, none] [] (cz z)) (he1 : ∀ (x3 : Int), P (.inr (.inr x3)) → R32 x3 → J mX5_nameOf 7 0 0 post 89 [none, none, none, some (ii (x3)), none, none] [] (cz z)) (H : L_X5_nameOf_3 t0 x1 x2 x3 z P) : J mX5_nameOf 7 0 0 post 3 [some (vr (some t0)), some (ii (x1)), some (ii (x2)), some (ii (x3)), none, none] [] (cz z) := by
  unfold L_X5_nameOf_3 at H
  refine j_iload_n (dk dt_X5_nameOf 2 rfl) rfl ?_
  refine j_bipush (v := Int32.ofInt 35) (dk dt_X5_nameOf 3 rfl) (by decide) ?_
  refine jz_icmp_gt 97 (dk dt_X5_nameOf 4 rfl) (by decide) r_x3 (by decide) H (fun H => ?_) (fun H => ?_)
  · exact j_el (he0  H ) trivial
  · refine j_iload_n (dk dt_X5_nameOf 5 rfl) rfl ?_
    refine j_bipush (v := Int32.ofInt 18) (dk dt_X5_nameOf 6 rfl) (by decide) ?_
    refine jz_isub (dk dt_X5_nameOf 7 rfl) ?_
    refine j_bipush (v := Int32.ofInt 8) (dk dt_X5_nameOf 8 rfl) (by decide) ?_
    refine jz_imul (dk dt_X5_nameOf 9 rfl) ?_
    refine j_istore (dk dt_X5_nameOf 10 rfl) (by decide) ?_
    refine j_iconst (v := Int32.ofInt 0) (dk dt_X5_nameOf 11 rfl) (by decide) ?_
    refine j_istore (dk dt_X5_nameOf 12 rfl) (by decide) ?_
    exact j_el (T_X5_nameOf_21 r_x1 r_x2 r_x3 (r32_w _) (by decide) hw  hl he0 he1 H) (And.intro rfl (And.intro rfl (And.intro rfl (And.intro rfl (And.intro rfl (And.intro rfl trivial))))))
def F_X5_nameOf_3  (t0 : Nat) (x1 : Int) (x2 : Int) (x3 : Int) (z : Z) (P : Int → Prop) : Prop :=
  lp (S := Int) (E := (Unit) ⊕ (Int)) (fun q P_ => L_X5_nameOf_3 t0 x1 x2 q z P_) x3 (fun e => match e with | (.inl _) => P 0 | (.inr x3) => P x3)
theorem T_X5_nameOf_3  {t0 : Nat} {x1 : Int} {x2 : Int} {x3 : Int} {z : Z} {P : Int → Prop} (r_x1 : R32 x1) (r_x2 : R32 x2) (r_x3 : R32 x3) (hw : Wz z)   (H : F_X5_nameOf_3 t0 x1 x2 x3 z P) : J mX5_nameOf 7 0 0 (nx (QPI (cz z) P)) 3 [some (vr (some t0)), some (ii (x1)), some (ii (x2)), some (ii (x3)), none, none] [] (cz z) := by
  unfold F_X5_nameOf_3 at H
  refine lp_J (G := fun q => R32 (q) → J mX5_nameOf 7 0 0 (nx (QPI (cz z) P)) 3 [some (vr (some t0)), some (ii (x1)), some (ii (x2)), some (ii ((q))), none, none] [] (cz z)) (fun x3 P_ hl_ he_ Hb => ?_) x3 H r_x3
  intro r_x3
  refine U_X5_nameOf_3 (P := P_) r_x1 r_x2 r_x3 hw  (fun x3 Hp r_x3 => hl_ x3 Hp r_x3) ?_ ?_ Hb
  · intro Hp
    have H := he_ _ Hp
    refine j_iconst (v := Int32.ofInt 0) (dk dt_X5_nameOf 51 rfl) (by decide) ?_
    exact j_ireturn (dk dt_X5_nameOf 52 rfl) rfl rfl ⟨_, rfl, (by decide), rfl, H⟩
  · intro x3 Hp r_x3
    have H := he_ _ Hp
    refine j_iload_n (dk dt_X5_nameOf 47 rfl) rfl ?_
    exact j_ireturn (dk dt_X5_nameOf 48 rfl) rfl rfl ⟨_, rfl, r_x3, rfl, H⟩
def F_X5_nameOf  (t0 : Nat) (x1 : Int) (x2 : Int) (z : Z) (P : Int → Prop) : Prop :=
  F_X5_nameOf_3 t0 x1 x2 18 z P
theorem T_X5_nameOf  {t0 : Nat} {x1 : Int} {x2 : Int} {z : Z} {P : Int → Prop} (r_x1 : R32 x1) (r_x2 : R32 x2) (hw : Wz z)  (H : F_X5_nameOf t0 x1 x2 z P) : Con mX5_nameOf 7 0 0 [vr (some t0), ii (x1), ii (x2)] (cz z) (QPI (cz z) P) := by
  refine con_of rfl (Nat.le_of_ble_eq_true rfl) (by decide) ?_
  show J mX5_nameOf 7 0 0 _ 0 [some (vr (some t0)), some (ii (x1)), some (ii (x2)), none, none, none] [] (cz z)
  unfold F_X5_nameOf at H
  refine j_bipush (v := Int32.ofInt 18) (dk dt_X5_nameOf 0 rfl) (by decide) ?_
  refine j_istore_n (dk dt_X5_nameOf 1 rfl) (by decide) ?_
  exact j_el (T_X5_nameOf_3 r_x1 r_x2 (by decide) hw   H) (And.intro rfl (And.intro rfl (And.intro rfl (And.intro rfl trivial))))
def F_X8_setTruth_11  (s0 : Option Nat) (s1 : Int) (s2 : Int) (z : Z) (P : Z → Prop) : Prop :=
  (∃ a_11, s0 = some a_11 ∧ zK z a_11 = 9 ∧ F_X8_set a_11 s1 s2 z (fun z_11 => P z_11))
theorem T_X8_setTruth_11  {s0 : Option Nat} {s1 : Int} {s2 : Int} {z : Z} {P : Z → Prop} (r_s1 : R32 s1) (r_s2 : R64 s2) (hw : Wz z)   (H : F_X8_setTruth_11 s0 s1 s2 z P) : J mX8_setTruth 2 0 0 (nx (QZV P)) 11 [none, none] [ll (s2), ii (s1), vr (s0)] (cz z) := by
  unfold F_X8_setTruth_11 at H
  obtain ⟨a_11, e_11, k_11, H⟩ := H
  refine jz_callV2 (dk dt_X8_setTruth 7 rfl) vl_X8_33 e_11 (T_X8_set r_s1 r_s2 hw H) k_11 rfl (by decide) (Nat.zero_le _) (Nat.zero_le _) (Nat.le_of_ble_eq_true rfl) (fun v_11 h_11 P_11 => ?_)
  obtain ⟨z_11, rfl, rfl, w_11, H⟩ := P_11
  dsimp only [rs]
  exact j_return (dk dt_X8_setTruth 8 rfl) rfl ⟨_, rfl, rfl, w_11, H⟩
def F_X8_setTruth  (t0 : Nat) (x1 : Int) (z : Z) (P : Z → Prop) : Prop :=
  (if x1 = 0 then F_X8_setTruth_11 (some t0) 3 0 z P else F_X8_setTruth_11 (some t0) 3 1 z P)
theorem T_X8_setTruth  {t0 : Nat} {x1 : Int} {z : Z} {P : Z → Prop} (r_x1 : R32 x1) (hw : Wz z)  (H : F_X8_setTruth t0 x1 z P) : Con mX8_setTruth 2 0 0 [vr (some t0), ii (x1)] (cz z) (QZV P) := by
  refine con_of rfl (Nat.le_of_ble_eq_true rfl) (by decide) ?_
  show J mX8_setTruth 2 0 0 _ 0 [some (vr (some t0)), some (ii (x1))] [] (cz z)
  unfold F_X8_setTruth at H
  refine j_aload_n (dk dt_X8_setTruth 0 rfl) rfl ?_
  refine j_iconst (v := Int32.ofInt 3) (dk dt_X8_setTruth 1 rfl) (by decide) ?_
  refine j_iload_n (dk dt_X8_setTruth 2 rfl) rfl ?_
  refine jz_if_eq 10 (dk dt_X8_setTruth 3 rfl) (by decide) r_x1 H (fun H => ?_) (fun H => ?_)
  · refine j_lconst (v := Int64.ofInt 0) (dk dt_X8_setTruth 6 rfl) (by decide) ?_
    exact j_el (T_X8_setTruth_11 (by decide) (by decide) hw   H) trivial
  · refine j_lconst (v := Int64.ofInt 1) (dk dt_X8_setTruth 4 rfl) (by decide) ?_
    refine j_goto 11 (dk dt_X8_setTruth 5 rfl) (by decide) ?_
    exact j_el (T_X8_setTruth_11 (by decide) (by decide) hw   H) trivial
