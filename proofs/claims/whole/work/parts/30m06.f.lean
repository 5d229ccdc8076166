def F_X12_plainEntered_31  (x1 : Int) (u : Mu) (P : (Int × Mu) ⊕ ((Mu)) → Prop) : Prop :=
  P (.inl (w32 (x1 + 1), u))
theorem T_X12_plainEntered_31  {x1 : Int} {u : Mu} {P : (Int × Mu) ⊕ ((Mu)) → Prop} {h : Hp} {g : Nat → Nat} {post : Option Sv ⊕ String → Hp → Prop} (r_x1 : R32 x1) (m : Ms h g u)  (hl : ∀ (x1 : Int) (u : Mu) (h : Hp), P (.inl (x1, u)) → Ms h g u → R32 x1 → J mX12_plainEntered 8 0 0 post 5 [some (vr (some (g 0))), some (ii (x1)), none, none, none] [] h) (he0 : ∀ (u : Mu) (h : Hp), P (.inr u) → Ms h g u → J mX12_plainEntered 8 0 0 post 37 [some (vr (some (g 0))), none, none, none, none] [] h) (H : F_X12_plainEntered_31 x1 u P) : J mX12_plainEntered 8 0 0 (post) 31 [some (vr (some (g 0))), some (ii (x1)), none, none, none] [] h := by
  unfold F_X12_plainEntered_31 at H
  refine jz_iinc (dk dt_X12_plainEntered 17 rfl) rfl ?_
  refine j_goto 5 (dk dt_X12_plainEntered 18 rfl) (by decide) ?_
  exact j_el (hl _ _ _ H m (r32_w _)) (And.intro rfl (And.intro rfl trivial))
def L_X12_plainEntered_5  (x1 : Int) (u : Mu) (P : (Int × Mu) ⊕ ((Mu)) → Prop) : Prop :=
  (if mI u 0 44 ≤ x1 then P (.inr u) else (0 ≤ x1 ∧ x1 < 400 ∧ F_X12_isSign (mI u 39 x1) (fun x_19 => (if x_19 = 0 then F_X12_fail 1 x1 u (fun u_28 => F_X12_plainEntered_31 x1 u_28 P) else F_X12_plainEntered_31 x1 u P))))
theorem U_X12_plainEntered_5  {x1 : Int} {u : Mu} {P : (Int × Mu) ⊕ ((Mu)) → Prop} {h : Hp} {g : Nat → Nat} {post : Option Sv ⊕ String → Hp → Prop} (r_x1 : R32 x1) (m : Ms h g u)  (hl : ∀ (x1 : Int) (u : Mu) (h : Hp), P (.inl (x1, u)) → Ms h g u → R32 x1 → J mX12_plainEntered 8 0 0 post 5 [some (vr (some (g 0))), some (ii (x1)), none, none, none] [] h) (he0 : ∀ (u : Mu) (h : Hp), P (.inr u) → Ms h g u → J mX12_plainEntered 8 0 0 post 37 [some (vr (some (g 0))), none, none, none, none] [] h) (H : L_X12_plainEntered_5 x1 u P) : J mX12_plainEntered 8 0 0 post 5 [some (vr (some (g 0))), some (ii (x1)), none, none, none] [] h := by
  unfold L_X12_plainEntered_5 at H
  refine j_iload_n (dk dt_X12_plainEntered 3 rfl) rfl ?_
  refine j_aload_n (dk dt_X12_plainEntered 4 rfl) rfl ?_
  refine jm_getI (kz := 44) (dk dt_X12_plainEntered 5 rfl) fl_X12_261 rfl rfl m ?_
  refine jz_icmp_ge 37 (dk dt_X12_plainEntered 6 rfl) (by decide) r_x1 (m.2.1.1 _ _) H (fun H => ?_) (fun H => ?_)
  · exact j_el (he0 _ _ H m) (And.intro rfl trivial)
  · refine j_aload_n (dk dt_X12_plainEntered 7 rfl) rfl ?_
    refine jm_getA (dk dt_X12_plainEntered 8 rfl) fl_X12_106 rfl (c := 14) rfl m ?_
    refine j_iload_n (dk dt_X12_plainEntered 9 rfl) rfl ?_
    obtain ⟨p_18, q_18, H⟩ := H
    refine jm_iald (dk dt_X12_plainEntered 10 rfl) rfl rfl m p_18 q_18 ?_
    refine j_callS1 (dk dt_X12_plainEntered 11 rfl) sl_X12_293 (T_X12_isSign (m.2.1.1 _ _) H) rfl (by decide) (Nat.zero_le _) (Nat.zero_le _) (Nat.le_of_ble_eq_true rfl) (fun v_19 h_19 P_19 => ?_)
    obtain ⟨x_19, rfl, r_19, rfl, H⟩ := P_19
    dsimp only [rs]
    refine jz_if_ne 31 (dk dt_X12_plainEntered 12 rfl) (by decide) r_19 H (fun H => ?_) (fun H => ?_)
    · refine j_aload_n (dk dt_X12_plainEntered 13 rfl) rfl ?_
      refine j_iconst (v := Int32.ofInt 1) (dk dt_X12_plainEntered 14 rfl) (by decide) ?_
      refine j_iload_n (dk dt_X12_plainEntered 15 rfl) rfl ?_
      refine jz_callV2 (dk dt_X12_plainEntered 16 rfl) vl_X12_296 rfl (T_X12_fail (by decide) r_x1 m H) m.1.1 rfl (by decide) (Nat.zero_le _) (Nat.zero_le _) (Nat.le_of_ble_eq_true rfl) (fun v_28 h_28 P_28 => ?_)
      obtain ⟨u_28, rfl, m_28, H⟩ := P_28
      dsimp only [rs]
      exact j_el (T_X12_plainEntered_31 r_x1 m_28  hl he0 H) (And.intro rfl (And.intro rfl trivial))
    · exact j_el (T_X12_plainEntered_31 r_x1 m  hl he0 H) (And.intro rfl (And.intro rfl trivial))
def F_X12_plainEntered_58  (u : Mu) (P : Int → Mu → Prop) : Prop :=
  P 0 u
theorem T_X12_plainEntered_58  {u : Mu} {P : Int → Mu → Prop} {h : Hp} {g : Nat → Nat}  (m : Ms h g u)   (H : F_X12_plainEntered_58 u P) : J mX12_plainEntered 8 0 0 (nx (QMI g P)) 58 [none, none, none, none, none] [] h := by
  unfold F_X12_plainEntered_58 at H
  refine j_iconst (v := Int32.ofInt 0) (dk dt_X12_plainEntered 30 rfl) (by decide) ?_
  exact j_ireturn (dk dt_X12_plainEntered 31 rfl) rfl rfl ⟨_, _, rfl, (by decide), m, H⟩
def F_X12_plainEntered_215  (s0 : Int) (u : Mu) (P : Int → Mu → Prop) : Prop :=
  (if w32 ((mI u 0 44) - s0) ≤ 24 then F_X12_kept s0 (mI u 0 44) u (fun x_245 u_245 => F_X12_plain 2 0 x_245 (w32 ((mI u_245 0 44) - s0)) u_245 (fun x_261 u_261 => P x_261 u_261)) else F_X12_fail 6 (w32 (s0 + 24)) u (fun u_234 => P 0 u_234))
theorem T_X12_plainEntered_215  {s0 : Int} {u : Mu} {P : Int → Mu → Prop} {h : Hp} {g : Nat → Nat} (r_s0 : R32 s0) (m : Ms h g u)   (H : F_X12_plainEntered_215 s0 u P) : J mX12_plainEntered 8 0 0 (nx (QMI g P)) 215 [some (vr (some (g 0))), none, none, none, none] [ii (s0)] h := by
  unfold F_X12_plainEntered_215 at H
  refine j_istore_n (dk dt_X12_plainEntered 117 rfl) (by decide) ?_
  refine j_aload_n (dk dt_X12_plainEntered 118 rfl) rfl ?_
  refine jm_getI (kz := 44) (dk dt_X12_plainEntered 119 rfl) fl_X12_261 rfl rfl m ?_
  refine j_iload_n (dk dt_X12_plainEntered 120 rfl) rfl ?_
  refine jz_isub (dk dt_X12_plainEntered 121 rfl) ?_
  refine j_bipush (v := Int32.ofInt 24) (dk dt_X12_plainEntered 122 rfl) (by decide) ?_
  refine jz_icmp_le 239 (dk dt_X12_plainEntered 123 rfl) (by decide) (r32_w _) (by decide) H (fun H => ?_) (fun H => ?_)
  · refine j_aload_n (dk dt_X12_plainEntered 132 rfl) rfl ?_
    refine j_iload_n (dk dt_X12_plainEntered 133 rfl) rfl ?_
    refine j_aload_n (dk dt_X12_plainEntered 134 rfl) rfl ?_
    refine jm_getI (kz := 44) (dk dt_X12_plainEntered 135 rfl) fl_X12_261 rfl rfl m ?_
    refine jz_callV2 (dk dt_X12_plainEntered 136 rfl) vl_X12_318 rfl (T_X12_kept r_s0 (m.2.1.1 _ _) m H) m.1.1 rfl (by decide) (Nat.zero_le _) (Nat.zero_le _) (Nat.le_of_ble_eq_true rfl) (fun v_245 h_245 P_245 => ?_)
    obtain ⟨x_245, u_245, rfl, r_245, m_245, H⟩ := P_245
    dsimp only [rs]
    refine j_istore (dk dt_X12_plainEntered 137 rfl) (by decide) ?_
    refine j_aload_n (dk dt_X12_plainEntered 138 rfl) rfl ?_
    refine j_iconst (v := Int32.ofInt 2) (dk dt_X12_plainEntered 139 rfl) (by decide) ?_
    refine j_lconst (v := Int64.ofInt 0) (dk dt_X12_plainEntered 140 rfl) (by decide) ?_
    refine j_iload (dk dt_X12_plainEntered 141 rfl) rfl ?_
    refine j_aload_n (dk dt_X12_plainEntered 142 rfl) rfl ?_
    refine jm_getI (kz := 44) (dk dt_X12_plainEntered 143 rfl) fl_X12_261 rfl rfl m_245 ?_
    refine j_iload_n (dk dt_X12_plainEntered 144 rfl) rfl ?_
    refine jz_isub (dk dt_X12_plainEntered 145 rfl) ?_
    refine jz_callV4 (dk dt_X12_plainEntered 146 rfl) vl_X12_306 rfl (T_X12_plain (by decide) (by decide) r_245 (r32_w _) m_245 H) m_245.1.1 rfl (by decide) (Nat.zero_le _) (Nat.zero_le _) (Nat.le_of_ble_eq_true rfl) (fun v_261 h_261 P_261 => ?_)
    obtain ⟨x_261, u_261, rfl, r_261, m_261, H⟩ := P_261
    dsimp only [rs]
    exact j_ireturn (dk dt_X12_plainEntered 147 rfl) rfl rfl ⟨_, _, rfl, r_261, m_261, H⟩
  · refine j_aload_n (dk dt_X12_plainEntered 124 rfl) rfl ?_
    refine j_bipush (v := Int32.ofInt 6) (dk dt_X12_plainEntered 125 rfl) (by decide) ?_
    refine j_iload_n (dk dt_X12_plainEntered 126 rfl) rfl ?_
    refine j_bipush (v := Int32.ofInt 24) (dk dt_X12_plainEntered 127 rfl) (by decide) ?_
    refine jz_iadd (dk dt_X12_plainEntered 128 rfl) ?_
    refine jz_callV2 (dk dt_X12_plainEntered 129 rfl) vl_X12_296 rfl (T_X12_fail (by decide) (r32_w _) m H) m.1.1 rfl (by decide) (Nat.zero_le _) (Nat.zero_le _) (Nat.le_of_ble_eq_true rfl) (fun v_234 h_234 P_234 => ?_)
    obtain ⟨u_234, rfl, m_234, H⟩ := P_234
    dsimp only [rs]
    refine j_iconst (v := Int32.ofInt 0) (dk dt_X12_plainEntered 130 rfl) (by decide) ?_
    exact j_ireturn (dk dt_X12_plainEntered 131 rfl) rfl rfl ⟨_, _, rfl, (by decide), m_234, H⟩
def F_X12_plainEntered_182  (s1 : Int) (s2 : Int) (u : Mu) (P : Int → Mu → Prop) : Prop :=
  F_X12_plain s1 s2 0 0 u (fun x_184 u_184 => P x_184 u_184)
theorem T_X12_plainEntered_182  {s1 : Int} {s2 : Int} {u : Mu} {P : Int → Mu → Prop} {h : Hp} {g : Nat → Nat} (r_s1 : R32 s1) (r_s2 : R64 s2) (m : Ms h g u)   (H : F_X12_plainEntered_182 s1 s2 u P) : J mX12_plainEntered 8 0 0 (nx (QMI g P)) 182 [none, none, none, none, none] [ll (s2), ii (s1), vr (some (g 0))] h := by
  unfold F_X12_plainEntered_182 at H
  refine j_iconst (v := Int32.ofInt 0) (dk dt_X12_plainEntered 99 rfl) (by decide) ?_
  refine j_iconst (v := Int32.ofInt 0) (dk dt_X12_plainEntered 100 rfl) (by decide) ?_
  refine jz_callV4 (dk dt_X12_plainEntered 101 rfl) vl_X12_306 rfl (T_X12_plain r_s1 r_s2 (by decide) (by decide) m H) m.1.1 rfl (by decide) (Nat.zero_le _) (Nat.zero_le _) (Nat.le_of_ble_eq_true rfl) (fun v_184 h_184 P_184 => ?_)
  obtain ⟨x_184, u_184, rfl, r_184, m_184, H⟩ := P_184
  dsimp only [rs]
  exact j_ireturn (dk dt_X12_plainEntered 102 rfl) rfl rfl ⟨_, _, rfl, r_184, m_184, H⟩
def F_X12_plainEntered_171  (x2 : Int) (u : Mu) (P : Int → Mu → Prop) : Prop :=
  (if x2 = 0 then F_X12_plainEntered_182 3 0 u P else F_X12_plainEntered_182 3 1 u P)
theorem T_X12_plainEntered_171  {x2 : Int} {u : Mu} {P : Int → Mu → Prop} {h : Hp} {g : Nat → Nat} (r_x2 : R32 x2) (m : Ms h g u)   (H : F_X12_plainEntered_171 x2 u P) : J mX12_plainEntered 8 0 0 (nx (QMI g P)) 171 [some (vr (some (g 0))), none, some (ii (x2)), none, none] [] h := by
  unfold F_X12_plainEntered_171 at H
  refine j_aload_n (dk dt_X12_plainEntered 92 rfl) rfl ?_
  refine j_iconst (v := Int32.ofInt 3) (dk dt_X12_plainEntered 93 rfl) (by decide) ?_
  refine j_iload_n (dk dt_X12_plainEntered 94 rfl) rfl ?_
  refine jz_if_eq 181 (dk dt_X12_plainEntered 95 rfl) (by decide) r_x2 H (fun H => ?_) (fun H => ?_)
  · refine j_lconst (v := Int64.ofInt 0) (dk dt_X12_plainEntered 98 rfl) (by decide) ?_
    exact j_el (T_X12_plainEntered_182 (by decide) (by decide) m   H) trivial
  · refine j_lconst (v := Int64.ofInt 1) (dk dt_X12_plainEntered 96 rfl) (by decide) ?_
    refine j_goto 182 (dk dt_X12_plainEntered 97 rfl) (by decide) ?_
    exact j_el (T_X12_plainEntered_182 (by decide) (by decide) m   H) trivial
def F_X12_plainEntered_133  (s1 : Int) (s2 : Int) (u : Mu) (P : Int → Mu → Prop) : Prop :=
  F_X12_plain s1 s2 0 0 u (fun x_135 u_135 => P x_135 u_135)
theorem T_X12_plainEntered_133  {s1 : Int} {s2 : Int} {u : Mu} {P : Int → Mu → Prop} {h : Hp} {g : Nat → Nat} (r_s1 : R32 s1) (r_s2 : R64 s2) (m : Ms h g u)   (H : F_X12_plainEntered_133 s1 s2 u P) : J mX12_plainEntered 8 0 0 (nx (QMI g P)) 133 [none, none, none, none, none] [ll (s2), ii (s1), vr (some (g 0))] h := by
  unfold F_X12_plainEntered_133 at H
  refine j_iconst (v := Int32.ofInt 0) (dk dt_X12_plainEntered 72 rfl) (by decide) ?_
  refine j_iconst (v := Int32.ofInt 0) (dk dt_X12_plainEntered 73 rfl) (by decide) ?_
  refine jz_callV4 (dk dt_X12_plainEntered 74 rfl) vl_X12_306 rfl (T_X12_plain r_s1 r_s2 (by decide) (by decide) m H) m.1.1 rfl (by decide) (Nat.zero_le _) (Nat.zero_le _) (Nat.le_of_ble_eq_true rfl) (fun v_135 h_135 P_135 => ?_)
  obtain ⟨x_135, u_135, rfl, r_135, m_135, H⟩ := P_135
  dsimp only [rs]
  exact j_ireturn (dk dt_X12_plainEntered 75 rfl) rfl rfl ⟨_, _, rfl, r_135, m_135, H⟩
def F_X12_plainEntered_113  (x2 : Int) (s1 : Int) (u : Mu) (P : Int → Mu → Prop) : Prop :=
  F_X12_numberFrom s1 (mI u 0 44) u (fun x_117 => (if x2 = 0 then F_X12_plainEntered_133 1 x_117 u P else F_X12_plainEntered_133 1 (w64 (-x_117)) u P))
theorem T_X12_plainEntered_113  {x2 : Int} {s1 : Int} {u : Mu} {P : Int → Mu → Prop} {h : Hp} {g : Nat → Nat} (r_x2 : R32 x2) (r_s1 : R32 s1) (m : Ms h g u)   (H : F_X12_plainEntered_113 x2 s1 u P) : J mX12_plainEntered 8 0 0 (nx (QMI g P)) 113 [some (vr (some (g 0))), none, some (ii (x2)), none, none] [ii (s1), vr (some (g 0))] h := by
  unfold F_X12_plainEntered_113 at H
  refine j_aload_n (dk dt_X12_plainEntered 60 rfl) rfl ?_
  refine jm_getI (kz := 44) (dk dt_X12_plainEntered 61 rfl) fl_X12_261 rfl rfl m ?_
  refine jz_callV2 (dk dt_X12_plainEntered 62 rfl) vl_X12_302 rfl (T_X12_numberFrom r_s1 (m.2.1.1 _ _) m H) m.1.1 rfl (by decide) (Nat.zero_le _) (Nat.zero_le _) (Nat.le_of_ble_eq_true rfl) (fun v_117 h_117 P_117 => ?_)
  obtain ⟨x_117, rfl, r_117, rfl, H⟩ := P_117
  dsimp only [rs]
  refine j_lstore_n (dk dt_X12_plainEntered 63 rfl) (by decide) ?_
  refine j_aload_n (dk dt_X12_plainEntered 64 rfl) rfl ?_
  refine j_iconst (v := Int32.ofInt 1) (dk dt_X12_plainEntered 65 rfl) (by decide) ?_
  refine j_iload_n (dk dt_X12_plainEntered 66 rfl) rfl ?_
  refine jz_if_eq 132 (dk dt_X12_plainEntered 67 rfl) (by decide) r_x2 H (fun H => ?_) (fun H => ?_)
  · refine j_lload_n (dk dt_X12_plainEntered 71 rfl) rfl ?_
    exact j_el (T_X12_plainEntered_133 (by decide) r_117 m   H) trivial
  · refine j_lload_n (dk dt_X12_plainEntered 68 rfl) rfl ?_
    refine jz_lneg (dk dt_X12_plainEntered 69 rfl) ?_
    refine j_goto 133 (dk dt_X12_plainEntered 70 rfl) (by decide) ?_
    exact j_el (T_X12_plainEntered_133 (by decide) (r64_w _) m   H) trivial
def F_X12_plainEntered_94  (s0 : Int) (u : Mu) (P : Int → Mu → Prop) : Prop :=
  (if s0 = 0 then F_X12_plainEntered_113 s0 (mI u 0 43) u P else F_X12_plainEntered_113 s0 (w32 (mI u 0 43 + 1)) u P)
theorem T_X12_plainEntered_94  {s0 : Int} {u : Mu} {P : Int → Mu → Prop} {h : Hp} {g : Nat → Nat} (r_s0 : R32 s0) (m : Ms h g u)   (H : F_X12_plainEntered_94 s0 u P) : J mX12_plainEntered 8 0 0 (nx (QMI g P)) 94 [some (vr (some (g 0))), none, none, none, none] [ii (s0)] h := by
  unfold F_X12_plainEntered_94 at H
  refine j_istore_n (dk dt_X12_plainEntered 49 rfl) (by decide) ?_
  refine j_aload_n (dk dt_X12_plainEntered 50 rfl) rfl ?_
  refine j_iload_n (dk dt_X12_plainEntered 51 rfl) rfl ?_
  refine jz_if_eq 109 (dk dt_X12_plainEntered 52 rfl) (by decide) r_s0 H (fun H => ?_) (fun H => ?_)
  · refine j_aload_n (dk dt_X12_plainEntered 58 rfl) rfl ?_
    refine jm_getI (kz := 43) (dk dt_X12_plainEntered 59 rfl) fl_X12_290 rfl rfl m ?_
    exact j_el (T_X12_plainEntered_113 r_s0 (m.2.1.1 _ _) m   H) (And.intro rfl (And.intro rfl trivial))
  · refine j_aload_n (dk dt_X12_plainEntered 53 rfl) rfl ?_
    refine jm_getI (kz := 43) (dk dt_X12_plainEntered 54 rfl) fl_X12_290 rfl rfl m ?_
    refine j_iconst (v := Int32.ofInt 1) (dk dt_X12_plainEntered 55 rfl) (by decide) ?_
    refine jz_iadd (dk dt_X12_plainEntered 56 rfl) ?_
    refine j_goto 113 (dk dt_X12_plainEntered 57 rfl) (by decide) ?_
    exact j_el (T_X12_plainEntered_113 r_s0 (r32_w _) m   H) (And.intro rfl (And.intro rfl trivial))
def F_X12_plainEntered_5  (x1 : Int) (u : Mu) (P : Int → Mu → Prop) : Prop :=
  lp (S := Int × Mu) (E := (Mu)) (fun q P_ => L_X12_plainEntered_5 q.1 q.2 P_) (x1, u) (fun (u : Mu) => (if 0 < mI u 0 41 then F_X12_plainEntered_58 u P else (if w32 ((mI u 0 44) - (mI u 0 43)) = 0 then F_X12_plainEntered_58 u P else F_X12_isNumber (mI u 0 43) (mI u 0 44) u (fun x_69 => (if x_69 = 0 then F_X12_isWord (mI u 0 43) (w32 ((mI u 0 44) - (mI u 0 43))) 11 u (fun x_148 => (if x_148 = 0 then F_X12_isWord (mI u 0 43) (w32 ((mI u 0 44) - (mI u 0 43))) 12 u (fun x_165 => (if x_165 = 0 then (0 ≤ mI u 0 43 ∧ mI u 0 43 < 400 ∧ (if mI u 39 (mI u 0 43) = 39 then F_X12_plainEntered_215 (w32 (mI u 0 43 + 1)) u P else F_X12_plainEntered_215 (mI u 0 43) u P)) else F_X12_plainEntered_171 x_148 u P)) else F_X12_plainEntered_171 x_148 u P)) else (0 ≤ mI u 0 43 ∧ mI u 0 43 < 400 ∧ (if mI u 39 (mI u 0 43) = 45 then F_X12_plainEntered_94 1 u P else F_X12_plainEntered_94 0 u P)))))))
theorem T_X12_plainEntered_5  {x1 : Int} {u : Mu} {P : Int → Mu → Prop} {h : Hp} {g : Nat → Nat} (r_x1 : R32 x1) (m : Ms h g u)   (H : F_X12_plainEntered_5 x1 u P) : J mX12_plainEntered 8 0 0 (nx (QMI g P)) 5 [some (vr (some (g 0))), some (ii (x1)), none, none, none] [] h := by
  unfold F_X12_plainEntered_5 at H
  refine lp_J (G := fun q => ∀ h : Hp, Ms h g (q.2) → R32 (q.1) → J mX12_plainEntered 8 0 0 (nx (QMI g P)) 5 [some (vr (some (g 0))), some (ii ((q.1))), none, none, none] [] h) (fun q P_ hl_ he_ Hb => ?_) (x1, u) H _ m r_x1
  obtain ⟨x1, u⟩ := q
  intro h m r_x1
  refine U_X12_plainEntered_5 (P := P_) r_x1 m  (fun x1 u h Hp m r_x1 => hl_ (x1, u) Hp h m r_x1) ?_ Hb
  · intro u h Hp m
    have H := he_ _ Hp
    refine j_aload_n (dk dt_X12_plainEntered 19 rfl) rfl ?_
    refine jm_getI (kz := 44) (dk dt_X12_plainEntered 20 rfl) fl_X12_261 rfl rfl m ?_
    refine j_aload_n (dk dt_X12_plainEntered 21 rfl) rfl ?_
    refine jm_getI (kz := 43) (dk dt_X12_plainEntered 22 rfl) fl_X12_290 rfl rfl m ?_
    refine jz_isub (dk dt_X12_plainEntered 23 rfl) ?_
    refine j_istore_n (dk dt_X12_plainEntered 24 rfl) (by decide) ?_
    refine j_aload_n (dk dt_X12_plainEntered 25 rfl) rfl ?_
    refine jm_getI (kz := 41) (dk dt_X12_plainEntered 26 rfl) fl_X12_277 rfl rfl m ?_
    refine jz_if_gt 58 (dk dt_X12_plainEntered 27 rfl) (by decide) (m.2.1.1 _ _) H (fun H => ?_) (fun H => ?_)
    · exact j_el (T_X12_plainEntered_58  m   H) trivial
    · refine j_iload_n (dk dt_X12_plainEntered 28 rfl) rfl ?_
      refine jz_if_ne 60 (dk dt_X12_plainEntered 29 rfl) (by decide) (r32_w _) H (fun H => ?_) (fun H => ?_)
      · exact j_el (T_X12_plainEntered_58  m   H) trivial
      · refine j_aload_n (dk dt_X12_plainEntered 32 rfl) rfl ?_
        refine j_aload_n (dk dt_X12_plainEntered 33 rfl) rfl ?_
        refine jm_getI (kz := 43) (dk dt_X12_plainEntered 34 rfl) fl_X12_290 rfl rfl m ?_
        refine j_aload_n (dk dt_X12_plainEntered 35 rfl) rfl ?_
        refine jm_getI (kz := 44) (dk dt_X12_plainEntered 36 rfl) fl_X12_261 rfl rfl m ?_
        refine jz_callV2 (dk dt_X12_plainEntered 37 rfl) vl_X12_299 rfl (T_X12_isNumber (m.2.1.1 _ _) (m.2.1.1 _ _) m H) m.1.1 rfl (by decide) (Nat.zero_le _) (Nat.zero_le _) (Nat.le_of_ble_eq_true rfl) (fun v_69 h_69 P_69 => ?_)
        obtain ⟨x_69, rfl, r_69, rfl, H⟩ := P_69
        dsimp only [rs]
        refine jz_if_eq 139 (dk dt_X12_plainEntered 38 rfl) (by decide) r_69 H (fun H => ?_) (fun H => ?_)
        · refine j_aload_n (dk dt_X12_plainEntered 76 rfl) rfl ?_
          refine j_aload_n (dk dt_X12_plainEntered 77 rfl) rfl ?_
          refine jm_getI (kz := 43) (dk dt_X12_plainEntered 78 rfl) fl_X12_290 rfl rfl m ?_
          refine j_iload_n (dk dt_X12_plainEntered 79 rfl) rfl ?_
          refine j_ldcwS 11 rfl (dk dt_X12_plainEntered 80 rfl) rfl rfl ?_
          refine jz_callV3 (dk dt_X12_plainEntered 81 rfl) vl_X12_312 rfl (T_X12_isWord (m.2.1.1 _ _) (r32_w _) m H) m.1.1 rfl (by decide) (Nat.zero_le _) (Nat.zero_le _) (Nat.le_of_ble_eq_true rfl) (fun v_148 h_148 P_148 => ?_)
          obtain ⟨x_148, rfl, r_148, rfl, H⟩ := P_148
          dsimp only [rs]
          refine j_istore_n (dk dt_X12_plainEntered 82 rfl) (by decide) ?_
          refine j_iload_n (dk dt_X12_plainEntered 83 rfl) rfl ?_
          refine jz_if_ne 171 (dk dt_X12_plainEntered 84 rfl) (by decide) r_148 H (fun H => ?_) (fun H => ?_)
          · refine j_aload_n (dk dt_X12_plainEntered 85 rfl) rfl ?_
            refine j_aload_n (dk dt_X12_plainEntered 86 rfl) rfl ?_
            refine jm_getI (kz := 43) (dk dt_X12_plainEntered 87 rfl) fl_X12_290 rfl rfl m ?_
            refine j_iload_n (dk dt_X12_plainEntered 88 rfl) rfl ?_
            refine j_ldcwS 12 rfl (dk dt_X12_plainEntered 89 rfl) rfl rfl ?_
            refine jz_callV3 (dk dt_X12_plainEntered 90 rfl) vl_X12_312 rfl (T_X12_isWord (m.2.1.1 _ _) (r32_w _) m H) m.1.1 rfl (by decide) (Nat.zero_le _) (Nat.zero_le _) (Nat.le_of_ble_eq_true rfl) (fun v_165 h_165 P_165 => ?_)
            obtain ⟨x_165, rfl, r_165, rfl, H⟩ := P_165
            dsimp only [rs]
            refine jz_if_eq 188 (dk dt_X12_plainEntered 91 rfl) (by decide) r_165 H (fun H => ?_) (fun H => ?_)
            · refine j_aload_n (dk dt_X12_plainEntered 103 rfl) rfl ?_
              refine jm_getA (dk dt_X12_plainEntered 104 rfl) fl_X12_106 rfl (c := 14) rfl m ?_
              refine j_aload_n (dk dt_X12_plainEntered 105 rfl) rfl ?_
              refine jm_getI (kz := 43) (dk dt_X12_plainEntered 106 rfl) fl_X12_290 rfl rfl m ?_
              obtain ⟨p_196, q_196, H⟩ := H
              refine jm_iald (dk dt_X12_plainEntered 107 rfl) rfl rfl m p_196 q_196 ?_
              refine j_bipush (v := Int32.ofInt 39) (dk dt_X12_plainEntered 108 rfl) (by decide) ?_
              refine jz_icmp_ne 211 (dk dt_X12_plainEntered 109 rfl) (by decide) (m.2.1.1 _ _) (by decide) H (fun H => ?_) (fun H => ?_)
              · refine j_aload_n (dk dt_X12_plainEntered 110 rfl) rfl ?_
                refine jm_getI (kz := 43) (dk dt_X12_plainEntered 111 rfl) fl_X12_290 rfl rfl m ?_
                refine j_iconst (v := Int32.ofInt 1) (dk dt_X12_plainEntered 112 rfl) (by decide) ?_
                refine jz_iadd (dk dt_X12_plainEntered 113 rfl) ?_
                refine j_goto 215 (dk dt_X12_plainEntered 114 rfl) (by decide) ?_
                exact j_el (T_X12_plainEntered_215 (r32_w _) m   H) (And.intro rfl trivial)
              · refine j_aload_n (dk dt_X12_plainEntered 115 rfl) rfl ?_
                refine jm_getI (kz := 43) (dk dt_X12_plainEntered 116 rfl) fl_X12_290 rfl rfl m ?_
                exact j_el (T_X12_plainEntered_215 (m.2.1.1 _ _) m   H) (And.intro rfl trivial)
            · exact j_el (T_X12_plainEntered_171 r_148 m   H) (And.intro rfl (And.intro rfl trivial))
          · exact j_el (T_X12_plainEntered_171 r_148 m   H) (And.intro rfl (And.intro rfl trivial))
        · refine j_aload_n (dk dt_X12_plainEntered 39 rfl) rfl ?_
          refine jm_getA (dk dt_X12_plainEntered 40 rfl) fl_X12_106 rfl (c := 14) rfl m ?_
          refine j_aload_n (dk dt_X12_plainEntered 41 rfl) rfl ?_
          refine jm_getI (kz := 43) (dk dt_X12_plainEntered 42 rfl) fl_X12_290 rfl rfl m ?_
          obtain ⟨p_83, q_83, H⟩ := H
          refine jm_iald (dk dt_X12_plainEntered 43 rfl) rfl rfl m p_83 q_83 ?_
          refine j_bipush (v := Int32.ofInt 45) (dk dt_X12_plainEntered 44 rfl) (by decide) ?_
          refine jz_icmp_ne 93 (dk dt_X12_plainEntered 45 rfl) (by decide) (m.2.1.1 _ _) (by decide) H (fun H => ?_) (fun H => ?_)
          · refine j_iconst (v := Int32.ofInt 1) (dk dt_X12_plainEntered 46 rfl) (by decide) ?_
            refine j_goto 94 (dk dt_X12_plainEntered 47 rfl) (by decide) ?_
            exact j_el (T_X12_plainEntered_94 (by decide) m   H) (And.intro rfl trivial)
          · refine j_iconst (v := Int32.ofInt 0) (dk dt_X12_plainEntered 48 rfl) (by decide) ?_
            exact j_el (T_X12_plainEntered_94 (by decide) m   H) (And.intro rfl trivial)
def F_X12_plainEntered  (u : Mu) (P : Int → Mu → Prop) : Prop :=
  F_X12_plainEntered_5 (mI u 0 43) u P
theorem T_X12_plainEntered  {u : Mu} {P : Int → Mu → Prop} {h : Hp} {g : Nat → Nat}  (m : Ms h g u)  (H : F_X12_plainEntered u P) : Con mX12_plainEntered 8 0 0 [vr (some (g 0))] h (QMI g P) := by
  refine con_of rfl (Nat.le_of_ble_eq_true rfl) (by decide) ?_
  show J mX12_plainEntered 8 0 0 _ 0 [some (vr (some (g 0))), none, none, none, none] [] h
  unfold F_X12_plainEntered at H
  refine j_aload_n (dk dt_X12_plainEntered 0 rfl) rfl ?_
  refine jm_getI (kz := 43) (dk dt_X12_plainEntered 1 rfl) fl_X12_290 rfl rfl m ?_
  refine j_istore_n (dk dt_X12_plainEntered 2 rfl) (by decide) ?_
  exact j_el (T_X12_plainEntered_5 (m.2.1.1 _ _) m   H) (And.intro rfl (And.intro rfl trivial))
def F_X12_is  (x1 : Int) (x2 : Int) (u : Mu) (P : Mu → Prop) : Prop :=
  (∀ u_2, u_2 = uI u 0 47 x1 → (∀ u_7, u_7 = uI u_2 0 49 x2 → P u_7))
theorem T_X12_is  {x1 : Int} {x2 : Int} {u : Mu} {P : Mu → Prop} {h : Hp} {g : Nat → Nat} (r_x1 : R32 x1) (r_x2 : R32 x2) (m : Ms h g u)  (H : F_X12_is x1 x2 u P) : Con mX12_is 1 0 0 [vr (some (g 0)), ii (x1), ii (x2)] h (QMV g P) := by
  refine con_of rfl (Nat.le_of_ble_eq_true rfl) (by decide) ?_
  show J mX12_is 1 0 0 _ 0 [some (vr (some (g 0))), some (ii (x1)), some (ii (x2))] [] h
  unfold F_X12_is at H
  refine j_aload_n (dk dt_X12_is 0 rfl) rfl ?_
  refine j_iload_n (dk dt_X12_is 1 rfl) rfl ?_
  refine jm_putI (kz := 47) (dk dt_X12_is 2 rfl) fl_X12_362 rfl rfl rfl rfl m r_x1 (fun h_2 m_2 => ?_)
  replace H := H _ rfl
  refine j_aload_n (dk dt_X12_is 3 rfl) rfl ?_
  refine j_iload_n (dk dt_X12_is 4 rfl) rfl ?_
  refine jm_putI (kz := 49) (dk dt_X12_is 5 rfl) fl_X12_365 rfl rfl rfl rfl m_2 r_x2 (fun h_7 m_7 => ?_)
  replace H := H _ rfl
  exact j_return (dk dt_X12_is 6 rfl) rfl ⟨_, rfl, m_7, H⟩
def L_X12_numberToken_5  (x1 : Int) (u : Mu) (P : Int ⊕ ((Int)) → Prop) : Prop :=
  F_X12_byteAt x1 u (fun x_7 => F_X12_isDigit x_7 (fun x_10 => (if x_10 = 0 then P (.inr x1) else P (.inl (w32 (x1 + 1))))))
theorem U_X12_numberToken_5  {x1 : Int} {u : Mu} {P : Int ⊕ ((Int)) → Prop} {h : Hp} {g : Nat → Nat} {post : Option Sv ⊕ String → Hp → Prop} (r_x1 : R32 x1) (m : Ms h g u)  (hl : ∀ (x1 : Int), P (.inl x1) → R32 x1 → J mX12_numberToken 3 0 0 post 5 [some (vr (some (g 0))), some (ii (x1))] [] h) (he0 : ∀ (x1 : Int), P (.inr x1) → R32 x1 → J mX12_numberToken 3 0 0 post 22 [some (vr (some (g 0))), some (ii (x1))] [] h) (H : L_X12_numberToken_5 x1 u P) : J mX12_numberToken 3 0 0 post 5 [some (vr (some (g 0))), some (ii (x1))] [] h := by
  unfold L_X12_numberToken_5 at H
  refine j_aload_n (dk dt_X12_numberToken 3 rfl) rfl ?_
  refine j_iload_n (dk dt_X12_numberToken 4 rfl) rfl ?_
  refine jz_callV1 (dk dt_X12_numberToken 5 rfl) vl_X12_270 rfl (T_X12_byteAt r_x1 m H) m.1.1 rfl (by decide) (Nat.zero_le _) (Nat.zero_le _) (Nat.le_of_ble_eq_true rfl) (fun v_7 h_7 P_7 => ?_)
  obtain ⟨x_7, rfl, r_7, rfl, H⟩ := P_7
  dsimp only [rs]
  refine j_callS1 (dk dt_X12_numberToken 6 rfl) sl_X12_283 (T_X12_isDigit r_7 H) rfl (by decide) (Nat.zero_le _) (Nat.zero_le _) (Nat.le_of_ble_eq_true rfl) (fun v_10 h_10 P_10 => ?_)
  obtain ⟨x_10, rfl, r_10, rfl, H⟩ := P_10
  dsimp only [rs]
  refine jz_if_eq 22 (dk dt_X12_numberToken 7 rfl) (by decide) r_10 H (fun H => ?_) (fun H => ?_)
  · exact j_el (he0 _ H r_x1) (And.intro rfl (And.intro rfl trivial))
  · refine jz_iinc (dk dt_X12_numberToken 8 rfl) rfl ?_
    refine j_goto 5 (dk dt_X12_numberToken 9 rfl) (by decide) ?_
    exact j_el (hl _ H (r32_w _)) (And.intro rfl (And.intro rfl trivial))
def F_X12_numberToken_44  (x1 : Int) (u : Mu) (P : Mu → Prop) : Prop :=
  F_X12_is 1 x1 u (fun u_47 => P u_47)
theorem T_X12_numberToken_44  {x1 : Int} {u : Mu} {P : Mu → Prop} {h : Hp} {g : Nat → Nat} (r_x1 : R32 x1) (m : Ms h g u)   (H : F_X12_numberToken_44 x1 u P) : J mX12_numberToken 3 0 0 (nx (QMV g P)) 44 [some (vr (some (g 0))), some (ii (x1))] [] h := by
  unfold F_X12_numberToken_44 at H
  refine j_aload_n (dk dt_X12_numberToken 22 rfl) rfl ?_
  refine j_iconst (v := Int32.ofInt 1) (dk dt_X12_numberToken 23 rfl) (by decide) ?_
  refine j_iload_n (dk dt_X12_numberToken 24 rfl) rfl ?_
  refine jz_callV2 (dk dt_X12_numberToken 25 rfl) vl_X12_377 rfl (T_X12_is (by decide) r_x1 m H) m.1.1 rfl (by decide) (Nat.zero_le _) (Nat.zero_le _) (Nat.le_of_ble_eq_true rfl) (fun v_47 h_47 P_47 => ?_)
  obtain ⟨u_47, rfl, m_47, H⟩ := P_47
  dsimp only [rs]
  exact j_return (dk dt_X12_numberToken 26 rfl) rfl ⟨_, rfl, m_47, H⟩
def F_X12_numberToken_5  (x1 : Int) (u : Mu) (P : Mu → Prop) : Prop :=
  lp (S := Int) (E := (Int)) (fun q P_ => L_X12_numberToken_5 q u P_) x1 (fun (x1 : Int) => (if w32 (x1 - (mI u 0 46)) ≤ 15 then F_X12_numberToken_44 x1 u P else (∀ u_41, u_41 = uI u 0 51 (w32 (mI u 0 46 + 15)) → F_X12_numberToken_44 x1 u_41 P)))
theorem T_X12_numberToken_5  {x1 : Int} {u : Mu} {P : Mu → Prop} {h : Hp} {g : Nat → Nat} (r_x1 : R32 x1) (m : Ms h g u)   (H : F_X12_numberToken_5 x1 u P) : J mX12_numberToken 3 0 0 (nx (QMV g P)) 5 [some (vr (some (g 0))), some (ii (x1))] [] h := by
  unfold F_X12_numberToken_5 at H
  refine lp_J (G := fun q => R32 (q) → J mX12_numberToken 3 0 0 (nx (QMV g P)) 5 [some (vr (some (g 0))), some (ii ((q)))] [] h) (fun x1 P_ hl_ he_ Hb => ?_) x1 H r_x1
  intro r_x1
  refine U_X12_numberToken_5 (P := P_) r_x1 m  (fun x1 Hp r_x1 => hl_ x1 Hp r_x1) ?_ Hb
  · intro x1 Hp r_x1
    have H := he_ _ Hp
    refine j_iload_n (dk dt_X12_numberToken 10 rfl) rfl ?_
    refine j_aload_n (dk dt_X12_numberToken 11 rfl) rfl ?_
    refine jm_getI (kz := 46) (dk dt_X12_numberToken 12 rfl) fl_X12_371 rfl rfl m ?_
    refine jz_isub (dk dt_X12_numberToken 13 rfl) ?_
    refine j_bipush (v := Int32.ofInt 15) (dk dt_X12_numberToken 14 rfl) (by decide) ?_
    refine jz_icmp_le 44 (dk dt_X12_numberToken 15 rfl) (by decide) (r32_w _) (by decide) H (fun H => ?_) (fun H => ?_)
    · exact j_el (T_X12_numberToken_44 r_x1 m   H) (And.intro rfl (And.intro rfl trivial))
    · refine j_aload_n (dk dt_X12_numberToken 16 rfl) rfl ?_
      refine j_aload_n (dk dt_X12_numberToken 17 rfl) rfl ?_
      refine jm_getI (kz := 46) (dk dt_X12_numberToken 18 rfl) fl_X12_371 rfl rfl m ?_
      refine j_bipush (v := Int32.ofInt 15) (dk dt_X12_numberToken 19 rfl) (by decide) ?_
      refine jz_iadd (dk dt_X12_numberToken 20 rfl) ?_
      refine jm_putI (kz := 51) (dk dt_X12_numberToken 21 rfl) fl_X12_374 rfl rfl rfl rfl m (r32_w _) (fun h_41 m_41 => ?_)
      replace H := H _ rfl
      exact j_el (T_X12_numberToken_44 r_x1 m_41   H) (And.intro rfl (And.intro rfl trivial))
def F_X12_numberToken  (u : Mu) (P : Mu → Prop) : Prop :=
  F_X12_numberToken_5 (mI u 0 46) u P
theorem T_X12_numberToken  {u : Mu} {P : Mu → Prop} {h : Hp} {g : Nat → Nat}  (m : Ms h g u)  (H : F_X12_numberToken u P) : Con mX12_numberToken 3 0 0 [vr (some (g 0))] h (QMV g P) := by
  refine con_of rfl (Nat.le_of_ble_eq_true rfl) (by decide) ?_
  show J mX12_numberToken 3 0 0 _ 0 [some (vr (some (g 0))), none] [] h
  unfold F_X12_numberToken at H
  refine j_aload_n (dk dt_X12_numberToken 0 rfl) rfl ?_
  refine jm_getI (kz := 46) (dk dt_X12_numberToken 1 rfl) fl_X12_371 rfl rfl m ?_
  refine j_istore_n (dk dt_X12_numberToken 2 rfl) (by decide) ?_
  exact j_el (T_X12_numberToken_5 (m.2.1.1 _ _) m   H) (And.intro rfl (And.intro rfl trivial))
def F_X12_sign  (x1 : Int) (x2 : Int) (u : Mu) (P : Mu → Prop) : Prop :=
  (∀ u_3, u_3 = uI u 0 47 9 → (∀ u_8, u_8 = uI u_3 0 50 x1 → (∀ u_13, u_13 = uI u_8 0 49 x2 → P u_13)))
theorem T_X12_sign  {x1 : Int} {x2 : Int} {u : Mu} {P : Mu → Prop} {h : Hp} {g : Nat → Nat} (r_x1 : R32 x1) (r_x2 : R32 x2) (m : Ms h g u)  (H : F_X12_sign x1 x2 u P) : Con mX12_sign 1 0 0 [vr (some (g 0)), ii (x1), ii (x2)] h (QMV g P) := by
  refine con_of rfl (Nat.le_of_ble_eq_true rfl) (by decide) ?_
  show J mX12_sign 1 0 0 _ 0 [some (vr (some (g 0))), some (ii (x1)), some (ii (x2))] [] h
  unfold F_X12_sign at H
  refine j_aload_n (dk dt_X12_sign 0 rfl) rfl ?_
  refine j_bipush (v := Int32.ofInt 9) (dk dt_X12_sign 1 rfl) (by decide) ?_
  refine jm_putI (kz := 47) (dk dt_X12_sign 2 rfl) fl_X12_362 rfl rfl rfl rfl m (by decide) (fun h_3 m_3 => ?_)
  replace H := H _ rfl
  refine j_aload_n (dk dt_X12_sign 3 rfl) rfl ?_
  refine j_iload_n (dk dt_X12_sign 4 rfl) rfl ?_
  refine jm_putI (kz := 50) (dk dt_X12_sign 5 rfl) fl_X12_368 rfl rfl rfl rfl m_3 r_x1 (fun h_8 m_8 => ?_)
  replace H := H _ rfl
  refine j_aload_n (dk dt_X12_sign 6 rfl) rfl ?_
  refine j_iload_n (dk dt_X12_sign 7 rfl) rfl ?_
  refine jm_putI (kz := 49) (dk dt_X12_sign 8 rfl) fl_X12_365 rfl rfl rfl rfl m_8 r_x2 (fun h_13 m_13 => ?_)
  replace H := H _ rfl
  exact j_return (dk dt_X12_sign 9 rfl) rfl ⟨_, rfl, m_13, H⟩
def F_X12_signToken_314  (u : Mu) (P : Mu → Prop) : Prop :=
  P u
theorem T_X12_signToken_314  {u : Mu} {P : Mu → Prop} {h : Hp} {g : Nat → Nat}  (m : Ms h g u)   (H : F_X12_signToken_314 u P) : J mX12_signToken 2 0 0 (nx (QMV g P)) 314 [none, none, none] [] h := by
  unfold F_X12_signToken_314 at H
  exact j_return (dk dt_X12_signToken 162 rfl) rfl ⟨_, rfl, m, H⟩
def F_X12_signToken_90  (s1 : Int) (s2 : Int) (u : Mu) (P : Mu → Prop) : Prop :=
  F_X12_sign s1 s2 u (fun u_90 => F_X12_signToken_314 u_90 P)
theorem T_X12_signToken_90  {s1 : Int} {s2 : Int} {u : Mu} {P : Mu → Prop} {h : Hp} {g : Nat → Nat} (r_s1 : R32 s1) (r_s2 : R32 s2) (m : Ms h g u)   (H : F_X12_signToken_90 s1 s2 u P) : J mX12_signToken 2 0 0 (nx (QMV g P)) 90 [none, none, none] [ii (s2), ii (s1), vr (some (g 0))] h := by
  unfold F_X12_signToken_90 at H
  refine jz_callV2 (dk dt_X12_signToken 48 rfl) vl_X12_383 rfl (T_X12_sign r_s1 r_s2 m H) m.1.1 rfl (by decide) (Nat.zero_le _) (Nat.zero_le _) (Nat.le_of_ble_eq_true rfl) (fun v_90 h_90 P_90 => ?_)
  obtain ⟨u_90, rfl, m_90, H⟩ := P_90
  dsimp only [rs]
  refine j_goto 314 (dk dt_X12_signToken 49 rfl) (by decide) ?_
  exact j_el (T_X12_signToken_314  m_90   H) trivial
def F_X12_signToken_75  (s1 : Int) (u : Mu) (P : Mu → Prop) : Prop :=
  F_X12_signToken_90 s1 (w32 (mI u 0 46 + 2)) u P
theorem T_X12_signToken_75  {s1 : Int} {u : Mu} {P : Mu → Prop} {h : Hp} {g : Nat → Nat} (r_s1 : R32 s1) (m : Ms h g u)   (H : F_X12_signToken_75 s1 u P) : J mX12_signToken 2 0 0 (nx (QMV g P)) 75 [some (vr (some (g 0))), none, none] [ii (s1), vr (some (g 0))] h := by
  unfold F_X12_signToken_75 at H
  refine j_aload_n (dk dt_X12_signToken 39 rfl) rfl ?_
  refine jm_getI (kz := 46) (dk dt_X12_signToken 40 rfl) fl_X12_371 rfl rfl m ?_
  refine j_iconst (v := Int32.ofInt 2) (dk dt_X12_signToken 41 rfl) (by decide) ?_
  refine jz_iadd (dk dt_X12_signToken 42 rfl) ?_
  refine j_goto 90 (dk dt_X12_signToken 43 rfl) (by decide) ?_
  exact j_el (T_X12_signToken_90 r_s1 (r32_w _) m   H) trivial
def F_X12_signToken_63  (x2 : Int) (s1 : Int) (u : Mu) (P : Mu → Prop) : Prop :=
  (if x2 = 62 then F_X12_signToken_75 s1 u P else (if x2 = 61 then F_X12_signToken_75 s1 u P else F_X12_signToken_90 s1 (w32 (mI u 0 46 + 1)) u P))
theorem T_X12_signToken_63  {x2 : Int} {s1 : Int} {u : Mu} {P : Mu → Prop} {h : Hp} {g : Nat → Nat} (r_x2 : R32 x2) (r_s1 : R32 s1) (m : Ms h g u)   (H : F_X12_signToken_63 x2 s1 u P) : J mX12_signToken 2 0 0 (nx (QMV g P)) 63 [some (vr (some (g 0))), none, some (ii (x2))] [ii (s1), vr (some (g 0))] h := by
  unfold F_X12_signToken_63 at H
  refine j_iload_n (dk dt_X12_signToken 33 rfl) rfl ?_
  refine j_bipush (v := Int32.ofInt 62) (dk dt_X12_signToken 34 rfl) (by decide) ?_
  refine jz_icmp_eq 75 (dk dt_X12_signToken 35 rfl) (by decide) r_x2 (by decide) H (fun H => ?_) (fun H => ?_)
  · exact j_el (T_X12_signToken_75 r_s1 m   H) (And.intro rfl trivial)
  · refine j_iload_n (dk dt_X12_signToken 36 rfl) rfl ?_
    refine j_bipush (v := Int32.ofInt 61) (dk dt_X12_signToken 37 rfl) (by decide) ?_
    refine jz_icmp_ne 84 (dk dt_X12_signToken 38 rfl) (by decide) r_x2 (by decide) H (fun H => ?_) (fun H => ?_)
    · exact j_el (T_X12_signToken_75 r_s1 m   H) (And.intro rfl trivial)
    · refine j_aload_n (dk dt_X12_signToken 44 rfl) rfl ?_
      refine jm_getI (kz := 46) (dk dt_X12_signToken 45 rfl) fl_X12_371 rfl rfl m ?_
      refine j_iconst (v := Int32.ofInt 1) (dk dt_X12_signToken 46 rfl) (by decide) ?_
      refine jz_iadd (dk dt_X12_signToken 47 rfl) ?_
      exact j_el (T_X12_signToken_90 r_s1 (r32_w _) m   H) trivial
def F_X12_signToken_137  (s1 : Int) (s2 : Int) (u : Mu) (P : Mu → Prop) : Prop :=
  F_X12_sign s1 s2 u (fun u_137 => F_X12_signToken_314 u_137 P)
theorem T_X12_signToken_137  {s1 : Int} {s2 : Int} {u : Mu} {P : Mu → Prop} {h : Hp} {g : Nat → Nat} (r_s1 : R32 s1) (r_s2 : R32 s2) (m : Ms h g u)   (H : F_X12_signToken_137 s1 s2 u P) : J mX12_signToken 2 0 0 (nx (QMV g P)) 137 [none, none, none] [ii (s2), ii (s1), vr (some (g 0))] h := by
  unfold F_X12_signToken_137 at H
  refine jz_callV2 (dk dt_X12_signToken 72 rfl) vl_X12_383 rfl (T_X12_sign r_s1 r_s2 m H) m.1.1 rfl (by decide) (Nat.zero_le _) (Nat.zero_le _) (Nat.le_of_ble_eq_true rfl) (fun v_137 h_137 P_137 => ?_)
  obtain ⟨u_137, rfl, m_137, H⟩ := P_137
  dsimp only [rs]
  refine j_goto 314 (dk dt_X12_signToken 73 rfl) (by decide) ?_
  exact j_el (T_X12_signToken_314  m_137   H) trivial
def F_X12_signToken_116  (x2 : Int) (s1 : Int) (u : Mu) (P : Mu → Prop) : Prop :=
  (if x2 = 61 then F_X12_signToken_137 s1 (w32 (mI u 0 46 + 2)) u P else F_X12_signToken_137 s1 (w32 (mI u 0 46 + 1)) u P)
theorem T_X12_signToken_116  {x2 : Int} {s1 : Int} {u : Mu} {P : Mu → Prop} {h : Hp} {g : Nat → Nat} (r_x2 : R32 x2) (r_s1 : R32 s1) (m : Ms h g u)   (H : F_X12_signToken_116 x2 s1 u P) : J mX12_signToken 2 0 0 (nx (QMV g P)) 116 [some (vr (some (g 0))), none, some (ii (x2))] [ii (s1), vr (some (g 0))] h := by
  unfold F_X12_signToken_116 at H
  refine j_iload_n (dk dt_X12_signToken 60 rfl) rfl ?_
  refine j_bipush (v := Int32.ofInt 61) (dk dt_X12_signToken 61 rfl) (by decide) ?_
  refine jz_icmp_ne 131 (dk dt_X12_signToken 62 rfl) (by decide) r_x2 (by decide) H (fun H => ?_) (fun H => ?_)
  · refine j_aload_n (dk dt_X12_signToken 63 rfl) rfl ?_
    refine jm_getI (kz := 46) (dk dt_X12_signToken 64 rfl) fl_X12_371 rfl rfl m ?_
    refine j_iconst (v := Int32.ofInt 2) (dk dt_X12_signToken 65 rfl) (by decide) ?_
    refine jz_iadd (dk dt_X12_signToken 66 rfl) ?_
    refine j_goto 137 (dk dt_X12_signToken 67 rfl) (by decide) ?_
    exact j_el (T_X12_signToken_137 r_s1 (r32_w _) m   H) trivial
  · refine j_aload_n (dk dt_X12_signToken 68 rfl) rfl ?_
    refine jm_getI (kz := 46) (dk dt_X12_signToken 69 rfl) fl_X12_371 rfl rfl m ?_
    refine j_iconst (v := Int32.ofInt 1) (dk dt_X12_signToken 70 rfl) (by decide) ?_
    refine jz_iadd (dk dt_X12_signToken 71 rfl) ?_
    exact j_el (T_X12_signToken_137 r_s1 (r32_w _) m   H) trivial
def F_X12_signToken_305  (s1 : Int) (u : Mu) (P : Mu → Prop) : Prop :=
  F_X12_is s1 (w32 (mI u 0 46 + 1)) u (fun u_311 => F_X12_signToken_314 u_311 P)
theorem T_X12_signToken_305  {s1 : Int} {u : Mu} {P : Mu → Prop} {h : Hp} {g : Nat → Nat} (r_s1 : R32 s1) (m : Ms h g u)   (H : F_X12_signToken_305 s1 u P) : J mX12_signToken 2 0 0 (nx (QMV g P)) 305 [some (vr (some (g 0))), none, none] [ii (s1), vr (some (g 0))] h := by
  unfold F_X12_signToken_305 at H
  refine j_aload_n (dk dt_X12_signToken 157 rfl) rfl ?_
  refine jm_getI (kz := 46) (dk dt_X12_signToken 158 rfl) fl_X12_371 rfl rfl m ?_
  refine j_iconst (v := Int32.ofInt 1) (dk dt_X12_signToken 159 rfl) (by decide) ?_
  refine jz_iadd (dk dt_X12_signToken 160 rfl) ?_
  refine jz_callV2 (dk dt_X12_signToken 161 rfl) vl_X12_377 rfl (T_X12_is r_s1 (r32_w _) m H) m.1.1 rfl (by decide) (Nat.zero_le _) (Nat.zero_le _) (Nat.le_of_ble_eq_true rfl) (fun v_311 h_311 P_311 => ?_)
  obtain ⟨u_311, rfl, m_311, H⟩ := P_311
  dsimp only [rs]
  exact j_el (T_X12_signToken_314  m_311   H) trivial
def F_X12_signToken  (x1 : Int) (u : Mu) (P : Mu → Prop) : Prop :=
  F_X12_byteAt (w32 (mI u 0 46 + 1)) u (fun x_7 => (if x1 = 61 then F_X12_sign 10 (w32 (mI u 0 46 + 1)) u (fun u_26 => F_X12_signToken_314 u_26 P) else (if x1 = 60 then (if x_7 = 62 then F_X12_signToken_63 x_7 11 u P else (if x_7 = 61 then F_X12_signToken_63 x_7 13 u P else F_X12_signToken_63 x_7 12 u P)) else (if x1 = 62 then (if x_7 = 61 then F_X12_signToken_116 x_7 15 u P else F_X12_signToken_116 x_7 14 u P) else (if x1 = 38 then F_X12_sign 16 (w32 (mI u 0 46 + 1)) u (fun u_158 => F_X12_signToken_314 u_158 P) else (if x1 = 43 then F_X12_sign 17 (w32 (mI u 0 46 + 1)) u (fun u_179 => F_X12_signToken_314 u_179 P) else (if x1 = 45 then F_X12_sign 18 (w32 (mI u 0 46 + 1)) u (fun u_200 => F_X12_signToken_314 u_200 P) else (if x1 = 42 then F_X12_sign 19 (w32 (mI u 0 46 + 1)) u (fun u_221 => F_X12_signToken_314 u_221 P) else (if x1 = 47 then F_X12_sign 20 (w32 (mI u 0 46 + 1)) u (fun u_242 => F_X12_signToken_314 u_242 P) else (if x1 = 37 then F_X12_sign 21 (w32 (mI u 0 46 + 1)) u (fun u_263 => F_X12_signToken_314 u_263 P) else (if x1 = 40 then F_X12_signToken_305 6 u P else (if x1 = 41 then F_X12_signToken_305 7 u P else (if x1 = 44 then F_X12_signToken_305 8 u P else F_X12_signToken_305 10 u P)))))))))))))
theorem T_X12_signToken  {x1 : Int} {u : Mu} {P : Mu → Prop} {h : Hp} {g : Nat → Nat} (r_x1 : R32 x1) (m : Ms h g u)  (H : F_X12_signToken x1 u P) : Con mX12_signToken 2 0 0 [vr (some (g 0)), ii (x1)] h (QMV g P) := by
  refine con_of rfl (Nat.le_of_ble_eq_true rfl) (by decide) ?_
  show J mX12_signToken 2 0 0 _ 0 [some (vr (some (g 0))), some (ii (x1)), none] [] h
  unfold F_X12_signToken at H
  refine j_aload_n (dk dt_X12_signToken 0 rfl) rfl ?_
  refine j_aload_n (dk dt_X12_signToken 1 rfl) rfl ?_
  refine jm_getI (kz := 46) (dk dt_X12_signToken 2 rfl) fl_X12_371 rfl rfl m ?_
  refine j_iconst (v := Int32.ofInt 1) (dk dt_X12_signToken 3 rfl) (by decide) ?_
  refine jz_iadd (dk dt_X12_signToken 4 rfl) ?_
  refine jz_callV1 (dk dt_X12_signToken 5 rfl) vl_X12_270 rfl (T_X12_byteAt (r32_w _) m H) m.1.1 rfl (by decide) (Nat.zero_le _) (Nat.zero_le _) (Nat.le_of_ble_eq_true rfl) (fun v_7 h_7 P_7 => ?_)
  obtain ⟨x_7, rfl, r_7, rfl, H⟩ := P_7
  dsimp only [rs]
  refine j_istore_n (dk dt_X12_signToken 6 rfl) (by decide) ?_
  refine j_iload_n (dk dt_X12_signToken 7 rfl) rfl ?_
  refine j_bipush (v := Int32.ofInt 61) (dk dt_X12_signToken 8 rfl) (by decide) ?_
  refine jz_icmp_ne 32 (dk dt_X12_signToken 9 rfl) (by decide) r_x1 (by decide) H (fun H => ?_) (fun H => ?_)
  · refine j_aload_n (dk dt_X12_signToken 10 rfl) rfl ?_
    refine j_bipush (v := Int32.ofInt 10) (dk dt_X12_signToken 11 rfl) (by decide) ?_
    refine j_aload_n (dk dt_X12_signToken 12 rfl) rfl ?_
    refine jm_getI (kz := 46) (dk dt_X12_signToken 13 rfl) fl_X12_371 rfl rfl m ?_
    refine j_iconst (v := Int32.ofInt 1) (dk dt_X12_signToken 14 rfl) (by decide) ?_
    refine jz_iadd (dk dt_X12_signToken 15 rfl) ?_
    refine jz_callV2 (dk dt_X12_signToken 16 rfl) vl_X12_383 rfl (T_X12_sign (by decide) (r32_w _) m H) m.1.1 rfl (by decide) (Nat.zero_le _) (Nat.zero_le _) (Nat.le_of_ble_eq_true rfl) (fun v_26 h_26 P_26 => ?_)
    obtain ⟨u_26, rfl, m_26, H⟩ := P_26
    dsimp only [rs]
    refine j_goto 314 (dk dt_X12_signToken 17 rfl) (by decide) ?_
    exact j_el (T_X12_signToken_314  m_26   H) trivial
  · refine j_iload_n (dk dt_X12_signToken 18 rfl) rfl ?_
    refine j_bipush (v := Int32.ofInt 60) (dk dt_X12_signToken 19 rfl) (by decide) ?_
    refine jz_icmp_ne 96 (dk dt_X12_signToken 20 rfl) (by decide) r_x1 (by decide) H (fun H => ?_) (fun H => ?_)
    · refine j_aload_n (dk dt_X12_signToken 21 rfl) rfl ?_
      refine j_iload_n (dk dt_X12_signToken 22 rfl) rfl ?_
      refine j_bipush (v := Int32.ofInt 62) (dk dt_X12_signToken 23 rfl) (by decide) ?_
      refine jz_icmp_ne 50 (dk dt_X12_signToken 24 rfl) (by decide) r_7 (by decide) H (fun H => ?_) (fun H => ?_)
      · refine j_bipush (v := Int32.ofInt 11) (dk dt_X12_signToken 25 rfl) (by decide) ?_
        refine j_goto 63 (dk dt_X12_signToken 26 rfl) (by decide) ?_
        exact j_el (T_X12_signToken_63 r_7 (by decide) m   H) (And.intro rfl (And.intro rfl trivial))
      · refine j_iload_n (dk dt_X12_signToken 27 rfl) rfl ?_
        refine j_bipush (v := Int32.ofInt 61) (dk dt_X12_signToken 28 rfl) (by decide) ?_
        refine jz_icmp_ne 61 (dk dt_X12_signToken 29 rfl) (by decide) r_7 (by decide) H (fun H => ?_) (fun H => ?_)
        · refine j_bipush (v := Int32.ofInt 13) (dk dt_X12_signToken 30 rfl) (by decide) ?_
          refine j_goto 63 (dk dt_X12_signToken 31 rfl) (by decide) ?_
          exact j_el (T_X12_signToken_63 r_7 (by decide) m   H) (And.intro rfl (And.intro rfl trivial))
        · refine j_bipush (v := Int32.ofInt 12) (dk dt_X12_signToken 32 rfl) (by decide) ?_
          exact j_el (T_X12_signToken_63 r_7 (by decide) m   H) (And.intro rfl (And.intro rfl trivial))
    · refine j_iload_n (dk dt_X12_signToken 50 rfl) rfl ?_
      refine j_bipush (v := Int32.ofInt 62) (dk dt_X12_signToken 51 rfl) (by decide) ?_
      refine jz_icmp_ne 143 (dk dt_X12_signToken 52 rfl) (by decide) r_x1 (by decide) H (fun H => ?_) (fun H => ?_)
      · refine j_aload_n (dk dt_X12_signToken 53 rfl) rfl ?_
        refine j_iload_n (dk dt_X12_signToken 54 rfl) rfl ?_
        refine j_bipush (v := Int32.ofInt 61) (dk dt_X12_signToken 55 rfl) (by decide) ?_
        refine jz_icmp_ne 114 (dk dt_X12_signToken 56 rfl) (by decide) r_7 (by decide) H (fun H => ?_) (fun H => ?_)
        · refine j_bipush (v := Int32.ofInt 15) (dk dt_X12_signToken 57 rfl) (by decide) ?_
          refine j_goto 116 (dk dt_X12_signToken 58 rfl) (by decide) ?_
          exact j_el (T_X12_signToken_116 r_7 (by decide) m   H) (And.intro rfl (And.intro rfl trivial))
        · refine j_bipush (v := Int32.ofInt 14) (dk dt_X12_signToken 59 rfl) (by decide) ?_
          exact j_el (T_X12_signToken_116 r_7 (by decide) m   H) (And.intro rfl (And.intro rfl trivial))
      · refine j_iload_n (dk dt_X12_signToken 74 rfl) rfl ?_
        refine j_bipush (v := Int32.ofInt 38) (dk dt_X12_signToken 75 rfl) (by decide) ?_
        refine jz_icmp_ne 164 (dk dt_X12_signToken 76 rfl) (by decide) r_x1 (by decide) H (fun H => ?_) (fun H => ?_)
        · refine j_aload_n (dk dt_X12_signToken 77 rfl) rfl ?_
          refine j_bipush (v := Int32.ofInt 16) (dk dt_X12_signToken 78 rfl) (by decide) ?_
          refine j_aload_n (dk dt_X12_signToken 79 rfl) rfl ?_
          refine jm_getI (kz := 46) (dk dt_X12_signToken 80 rfl) fl_X12_371 rfl rfl m ?_
          refine j_iconst (v := Int32.ofInt 1) (dk dt_X12_signToken 81 rfl) (by decide) ?_
          refine jz_iadd (dk dt_X12_signToken 82 rfl) ?_
          refine jz_callV2 (dk dt_X12_signToken 83 rfl) vl_X12_383 rfl (T_X12_sign (by decide) (r32_w _) m H) m.1.1 rfl (by decide) (Nat.zero_le _) (Nat.zero_le _) (Nat.le_of_ble_eq_true rfl) (fun v_158 h_158 P_158 => ?_)
          obtain ⟨u_158, rfl, m_158, H⟩ := P_158
          dsimp only [rs]
          refine j_goto 314 (dk dt_X12_signToken 84 rfl) (by decide) ?_
          exact j_el (T_X12_signToken_314  m_158   H) trivial
        · refine j_iload_n (dk dt_X12_signToken 85 rfl) rfl ?_
          refine j_bipush (v := Int32.ofInt 43) (dk dt_X12_signToken 86 rfl) (by decide) ?_
          refine jz_icmp_ne 185 (dk dt_X12_signToken 87 rfl) (by decide) r_x1 (by decide) H (fun H => ?_) (fun H => ?_)
          · refine j_aload_n (dk dt_X12_signToken 88 rfl) rfl ?_
            refine j_bipush (v := Int32.ofInt 17) (dk dt_X12_signToken 89 rfl) (by decide) ?_
            refine j_aload_n (dk dt_X12_signToken 90 rfl) rfl ?_
            refine jm_getI (kz := 46) (dk dt_X12_signToken 91 rfl) fl_X12_371 rfl rfl m ?_
            refine j_iconst (v := Int32.ofInt 1) (dk dt_X12_signToken 92 rfl) (by decide) ?_
            refine jz_iadd (dk dt_X12_signToken 93 rfl) ?_
            refine jz_callV2 (dk dt_X12_signToken 94 rfl) vl_X12_383 rfl (T_X12_sign (by decide) (r32_w _) m H) m.1.1 rfl (by decide) (Nat.zero_le _) (Nat.zero_le _) (Nat.le_of_ble_eq_true rfl) (fun v_179 h_179 P_179 => ?_)
            obtain ⟨u_179, rfl, m_179, H⟩ := P_179
            dsimp only [rs]
            refine j_goto 314 (dk dt_X12_signToken 95 rfl) (by decide) ?_
            exact j_el (T_X12_signToken_314  m_179   H) trivial
          · refine j_iload_n (dk dt_X12_signToken 96 rfl) rfl ?_
            refine j_bipush (v := Int32.ofInt 45) (dk dt_X12_signToken 97 rfl) (by decide) ?_
            refine jz_icmp_ne 206 (dk dt_X12_signToken 98 rfl) (by decide) r_x1 (by decide) H (fun H => ?_) (fun H => ?_)
            · refine j_aload_n (dk dt_X12_signToken 99 rfl) rfl ?_
              refine j_bipush (v := Int32.ofInt 18) (dk dt_X12_signToken 100 rfl) (by decide) ?_
              refine j_aload_n (dk dt_X12_signToken 101 rfl) rfl ?_
              refine jm_getI (kz := 46) (dk dt_X12_signToken 102 rfl) fl_X12_371 rfl rfl m ?_
              refine j_iconst (v := Int32.ofInt 1) (dk dt_X12_signToken 103 rfl) (by decide) ?_
              refine jz_iadd (dk dt_X12_signToken 104 rfl) ?_
              refine jz_callV2 (dk dt_X12_signToken 105 rfl) vl_X12_383 rfl (T_X12_sign (by decide) (r32_w _) m H) m.1.1 rfl (by decide) (Nat.zero_le _) (Nat.zero_le _) (Nat.le_of_ble_eq_true rfl) (fun v_200 h_200 P_200 => ?_)
              obtain ⟨u_200, rfl, m_200, H⟩ := P_200
              dsimp only [rs]
              refine j_goto 314 (dk dt_X12_signToken 106 rfl) (by decide) ?_
              exact j_el (T_X12_signToken_314  m_200   H) trivial
            · refine j_iload_n (dk dt_X12_signToken 107 rfl) rfl ?_
              refine j_bipush (v := Int32.ofInt 42) (dk dt_X12_signToken 108 rfl) (by decide) ?_
              refine jz_icmp_ne 227 (dk dt_X12_signToken 109 rfl) (by decide) r_x1 (by decide) H (fun H => ?_) (fun H => ?_)
              · refine j_aload_n (dk dt_X12_signToken 110 rfl) rfl ?_
                refine j_bipush (v := Int32.ofInt 19) (dk dt_X12_signToken 111 rfl) (by decide) ?_
                refine j_aload_n (dk dt_X12_signToken 112 rfl) rfl ?_
                refine jm_getI (kz := 46) (dk dt_X12_signToken 113 rfl) fl_X12_371 rfl rfl m ?_
                refine j_iconst (v := Int32.ofInt 1) (dk dt_X12_signToken 114 rfl) (by decide) ?_
                refine jz_iadd (dk dt_X12_signToken 115 rfl) ?_
                refine jz_callV2 (dk dt_X12_signToken 116 rfl) vl_X12_383 rfl (T_X12_sign (by decide) (r32_w _) m H) m.1.1 rfl (by decide) (Nat.zero_le _) (Nat.zero_le _) (Nat.le_of_ble_eq_true rfl) (fun v_221 h_221 P_221 => ?_)
                obtain ⟨u_221, rfl, m_221, H⟩ := P_221
                dsimp only [rs]
                refine j_goto 314 (dk dt_X12_signToken 117 rfl) (by decide) ?_
                exact j_el (T_X12_signToken_314  m_221   H) trivial
              · refine j_iload_n (dk dt_X12_signToken 118 rfl) rfl ?_
                refine j_bipush (v := Int32.ofInt 47) (dk dt_X12_signToken 119 rfl) (by decide) ?_
                refine jz_icmp_ne 248 (dk dt_X12_signToken 120 rfl) (by decide) r_x1 (by decide) H (fun H => ?_) (fun H => ?_)
                · refine j_aload_n (dk dt_X12_signToken 121 rfl) rfl ?_
                  refine j_bipush (v := Int32.ofInt 20) (dk dt_X12_signToken 122 rfl) (by decide) ?_
                  refine j_aload_n (dk dt_X12_signToken 123 rfl) rfl ?_
                  refine jm_getI (kz := 46) (dk dt_X12_signToken 124 rfl) fl_X12_371 rfl rfl m ?_
                  refine j_iconst (v := Int32.ofInt 1) (dk dt_X12_signToken 125 rfl) (by decide) ?_
                  refine jz_iadd (dk dt_X12_signToken 126 rfl) ?_
                  refine jz_callV2 (dk dt_X12_signToken 127 rfl) vl_X12_383 rfl (T_X12_sign (by decide) (r32_w _) m H) m.1.1 rfl (by decide) (Nat.zero_le _) (Nat.zero_le _) (Nat.le_of_ble_eq_true rfl) (fun v_242 h_242 P_242 => ?_)
                  obtain ⟨u_242, rfl, m_242, H⟩ := P_242
                  dsimp only [rs]
                  refine j_goto 314 (dk dt_X12_signToken 128 rfl) (by decide) ?_
                  exact j_el (T_X12_signToken_314  m_242   H) trivial
                · refine j_iload_n (dk dt_X12_signToken 129 rfl) rfl ?_
                  refine j_bipush (v := Int32.ofInt 37) (dk dt_X12_signToken 130 rfl) (by decide) ?_
                  refine jz_icmp_ne 269 (dk dt_X12_signToken 131 rfl) (by decide) r_x1 (by decide) H (fun H => ?_) (fun H => ?_)
                  · refine j_aload_n (dk dt_X12_signToken 132 rfl) rfl ?_
                    refine j_bipush (v := Int32.ofInt 21) (dk dt_X12_signToken 133 rfl) (by decide) ?_
                    refine j_aload_n (dk dt_X12_signToken 134 rfl) rfl ?_
                    refine jm_getI (kz := 46) (dk dt_X12_signToken 135 rfl) fl_X12_371 rfl rfl m ?_
                    refine j_iconst (v := Int32.ofInt 1) (dk dt_X12_signToken 136 rfl) (by decide) ?_
                    refine jz_iadd (dk dt_X12_signToken 137 rfl) ?_
                    refine jz_callV2 (dk dt_X12_signToken 138 rfl) vl_X12_383 rfl (T_X12_sign (by decide) (r32_w _) m H) m.1.1 rfl (by decide) (Nat.zero_le _) (Nat.zero_le _) (Nat.le_of_ble_eq_true rfl) (fun v_263 h_263 P_263 => ?_)
                    obtain ⟨u_263, rfl, m_263, H⟩ := P_263
                    dsimp only [rs]
                    refine j_goto 314 (dk dt_X12_signToken 139 rfl) (by decide) ?_
                    exact j_el (T_X12_signToken_314  m_263   H) trivial
                  · refine j_aload_n (dk dt_X12_signToken 140 rfl) rfl ?_
                    refine j_iload_n (dk dt_X12_signToken 141 rfl) rfl ?_
                    refine j_bipush (v := Int32.ofInt 40) (dk dt_X12_signToken 142 rfl) (by decide) ?_
                    refine jz_icmp_ne 281 (dk dt_X12_signToken 143 rfl) (by decide) r_x1 (by decide) H (fun H => ?_) (fun H => ?_)
                    · refine j_bipush (v := Int32.ofInt 6) (dk dt_X12_signToken 144 rfl) (by decide) ?_
                      refine j_goto 305 (dk dt_X12_signToken 145 rfl) (by decide) ?_
                      exact j_el (T_X12_signToken_305 (by decide) m   H) (And.intro rfl trivial)
                    · refine j_iload_n (dk dt_X12_signToken 146 rfl) rfl ?_
                      refine j_bipush (v := Int32.ofInt 41) (dk dt_X12_signToken 147 rfl) (by decide) ?_
                      refine jz_icmp_ne 292 (dk dt_X12_signToken 148 rfl) (by decide) r_x1 (by decide) H (fun H => ?_) (fun H => ?_)
                      · refine j_bipush (v := Int32.ofInt 7) (dk dt_X12_signToken 149 rfl) (by decide) ?_
                        refine j_goto 305 (dk dt_X12_signToken 150 rfl) (by decide) ?_
                        exact j_el (T_X12_signToken_305 (by decide) m   H) (And.intro rfl trivial)
                      · refine j_iload_n (dk dt_X12_signToken 151 rfl) rfl ?_
                        refine j_bipush (v := Int32.ofInt 44) (dk dt_X12_signToken 152 rfl) (by decide) ?_
                        refine jz_icmp_ne 303 (dk dt_X12_signToken 153 rfl) (by decide) r_x1 (by decide) H (fun H => ?_) (fun H => ?_)
                        · refine j_bipush (v := Int32.ofInt 8) (dk dt_X12_signToken 154 rfl) (by decide) ?_
                          refine j_goto 305 (dk dt_X12_signToken 155 rfl) (by decide) ?_
                          exact j_el (T_X12_signToken_305 (by decide) m   H) (And.intro rfl trivial)
                        · refine j_bipush (v := Int32.ofInt 10) (dk dt_X12_signToken 156 rfl) (by decide) ?_
                          exact j_el (T_X12_signToken_305 (by decide) m   H) (And.intro rfl trivial)
def F_X12_textToken_86  (x1 : Int) (u : Mu) (P : (Int × Mu) ⊕ ((Int × Mu)) → Prop) : Prop :=
  P (.inl (w32 (x1 + 1), u))
theorem T_X12_textToken_86  {x1 : Int} {u : Mu} {P : (Int × Mu) ⊕ ((Int × Mu)) → Prop} {h : Hp} {g : Nat → Nat} {post : Option Sv ⊕ String → Hp → Prop} (r_x1 : R32 x1) (m : Ms h g u)  (hl : ∀ (x1 : Int) (u : Mu) (h : Hp), P (.inl (x1, u)) → Ms h g u → R32 x1 → J mX12_textToken 3 0 0 post 13 [some (vr (some (g 0))), some (ii (x1)), none] [] h) (he0 : ∀ (x1 : Int) (u : Mu) (h : Hp), P (.inr (x1, u)) → Ms h g u → R32 x1 → J mX12_textToken 3 0 0 post 92 [some (vr (some (g 0))), some (ii (x1)), none] [] h) (H : F_X12_textToken_86 x1 u P) : J mX12_textToken 3 0 0 (post) 86 [some (vr (some (g 0))), some (ii (x1)), none] [] h := by
  unfold F_X12_textToken_86 at H
  refine jz_iinc (dk dt_X12_textToken 46 rfl) rfl ?_
  refine j_goto 13 (dk dt_X12_textToken 47 rfl) (by decide) ?_
  exact j_el (hl _ _ _ H m (r32_w _)) (And.intro rfl (And.intro rfl trivial))
def L_X12_textToken_13  (x1 : Int) (u : Mu) (P : (Int × Mu) ⊕ ((Int × Mu)) → Prop) : Prop :=
  (if 0 ≤ mI u 0 51 then P (.inr (x1, u)) else F_X12_byteAt x1 u (fun x_22 => (if x_22 = 34 then P (.inr (x1, u)) else F_X12_byteAt x1 u (fun x_32 => (if x_32 = (-1) then (∀ u_46, u_46 = uI u 0 51 (mI u 0 45) → F_X12_textToken_86 x1 u_46 P) else (if w32 (x1 - (mI u 0 46)) ≤ 24 then F_X12_isSign x_32 (fun x_75 => (if x_75 = 0 then (∀ u_83, u_83 = uI u 0 51 x1 → F_X12_textToken_86 x1 u_83 P) else F_X12_textToken_86 x1 u P)) else (∀ u_68, u_68 = uI u 0 51 (mI u 0 46) → F_X12_textToken_86 x1 u_68 P)))))))
theorem U_X12_textToken_13  {x1 : Int} {u : Mu} {P : (Int × Mu) ⊕ ((Int × Mu)) → Prop} {h : Hp} {g : Nat → Nat} {post : Option Sv ⊕ String → Hp → Prop} (r_x1 : R32 x1) (m : Ms h g u)  (hl : ∀ (x1 : Int) (u : Mu) (h : Hp), P (.inl (x1, u)) → Ms h g u → R32 x1 → J mX12_textToken 3 0 0 post 13 [some (vr (some (g 0))), some (ii (x1)), none] [] h) (he0 : ∀ (x1 : Int) (u : Mu) (h : Hp), P (.inr (x1, u)) → Ms h g u → R32 x1 → J mX12_textToken 3 0 0 post 92 [some (vr (some (g 0))), some (ii (x1)), none] [] h) (H : L_X12_textToken_13 x1 u P) : J mX12_textToken 3 0 0 post 13 [some (vr (some (g 0))), some (ii (x1)), none] [] h := by
  unfold L_X12_textToken_13 at H
  refine j_aload_n (dk dt_X12_textToken 9 rfl) rfl ?_
  refine jm_getI (kz := 51) (dk dt_X12_textToken 10 rfl) fl_X12_374 rfl rfl m ?_
  refine jz_if_ge 92 (dk dt_X12_textToken 11 rfl) (by decide) (m.2.1.1 _ _) H (fun H => ?_) (fun H => ?_)
  · exact j_el (he0 _ _ _ H m r_x1) (And.intro rfl (And.intro rfl trivial))
  · refine j_aload_n (dk dt_X12_textToken 12 rfl) rfl ?_
    refine j_iload_n (dk dt_X12_textToken 13 rfl) rfl ?_
    refine jz_callV1 (dk dt_X12_textToken 14 rfl) vl_X12_270 rfl (T_X12_byteAt r_x1 m H) m.1.1 rfl (by decide) (Nat.zero_le _) (Nat.zero_le _) (Nat.le_of_ble_eq_true rfl) (fun v_22 h_22 P_22 => ?_)
    obtain ⟨x_22, rfl, r_22, rfl, H⟩ := P_22
    dsimp only [rs]
    refine j_bipush (v := Int32.ofInt 34) (dk dt_X12_textToken 15 rfl) (by decide) ?_
    refine jz_icmp_eq 92 (dk dt_X12_textToken 16 rfl) (by decide) r_22 (by decide) H (fun H => ?_) (fun H => ?_)
    · exact j_el (he0 _ _ _ H m r_x1) (And.intro rfl (And.intro rfl trivial))
    · refine j_aload_n (dk dt_X12_textToken 17 rfl) rfl ?_
      refine j_iload_n (dk dt_X12_textToken 18 rfl) rfl ?_
      refine jz_callV1 (dk dt_X12_textToken 19 rfl) vl_X12_270 rfl (T_X12_byteAt r_x1 m H) m.1.1 rfl (by decide) (Nat.zero_le _) (Nat.zero_le _) (Nat.le_of_ble_eq_true rfl) (fun v_32 h_32 P_32 => ?_)
      obtain ⟨x_32, rfl, r_32, rfl, H⟩ := P_32
      dsimp only [rs]
      refine j_istore_n (dk dt_X12_textToken 20 rfl) (by decide) ?_
      refine j_iload_n (dk dt_X12_textToken 21 rfl) rfl ?_
      refine j_iconst (v := Int32.ofInt (-1)) (dk dt_X12_textToken 22 rfl) (by decide) ?_
      refine jz_icmp_ne 52 (dk dt_X12_textToken 23 rfl) (by decide) r_32 (by decide) H (fun H => ?_) (fun H => ?_)
      · refine j_aload_n (dk dt_X12_textToken 24 rfl) rfl ?_
        refine j_aload_n (dk dt_X12_textToken 25 rfl) rfl ?_
        refine jm_getI (kz := 45) (dk dt_X12_textToken 26 rfl) fl_X12_324 rfl rfl m ?_
        refine jm_putI (kz := 51) (dk dt_X12_textToken 27 rfl) fl_X12_374 rfl rfl rfl rfl m (m.2.1.1 _ _) (fun h_46 m_46 => ?_)
        replace H := H _ rfl
        refine j_goto 86 (dk dt_X12_textToken 28 rfl) (by decide) ?_
        exact j_el (T_X12_textToken_86 r_x1 m_46  hl he0 H) (And.intro rfl (And.intro rfl trivial))
      · refine j_iload_n (dk dt_X12_textToken 29 rfl) rfl ?_
        refine j_aload_n (dk dt_X12_textToken 30 rfl) rfl ?_
        refine jm_getI (kz := 46) (dk dt_X12_textToken 31 rfl) fl_X12_371 rfl rfl m ?_
        refine jz_isub (dk dt_X12_textToken 32 rfl) ?_
        refine j_bipush (v := Int32.ofInt 24) (dk dt_X12_textToken 33 rfl) (by decide) ?_
        refine jz_icmp_le 74 (dk dt_X12_textToken 34 rfl) (by decide) (r32_w _) (by decide) H (fun H => ?_) (fun H => ?_)
        · refine j_iload_n (dk dt_X12_textToken 40 rfl) rfl ?_
          refine j_callS1 (dk dt_X12_textToken 41 rfl) sl_X12_293 (T_X12_isSign r_32 H) rfl (by decide) (Nat.zero_le _) (Nat.zero_le _) (Nat.le_of_ble_eq_true rfl) (fun v_75 h_75 P_75 => ?_)
          obtain ⟨x_75, rfl, r_75, rfl, H⟩ := P_75
          dsimp only [rs]
          refine jz_if_ne 86 (dk dt_X12_textToken 42 rfl) (by decide) r_75 H (fun H => ?_) (fun H => ?_)
          · refine j_aload_n (dk dt_X12_textToken 43 rfl) rfl ?_
            refine j_iload_n (dk dt_X12_textToken 44 rfl) rfl ?_
            refine jm_putI (kz := 51) (dk dt_X12_textToken 45 rfl) fl_X12_374 rfl rfl rfl rfl m r_x1 (fun h_83 m_83 => ?_)
            replace H := H _ rfl
            exact j_el (T_X12_textToken_86 r_x1 m_83  hl he0 H) (And.intro rfl (And.intro rfl trivial))
          · exact j_el (T_X12_textToken_86 r_x1 m  hl he0 H) (And.intro rfl (And.intro rfl trivial))
        · refine j_aload_n (dk dt_X12_textToken 35 rfl) rfl ?_
          refine j_aload_n (dk dt_X12_textToken 36 rfl) rfl ?_
          refine jm_getI (kz := 46) (dk dt_X12_textToken 37 rfl) fl_X12_371 rfl rfl m ?_
          refine jm_putI (kz := 51) (dk dt_X12_textToken 38 rfl) fl_X12_374 rfl rfl rfl rfl m (m.2.1.1 _ _) (fun h_68 m_68 => ?_)
          replace H := H _ rfl
          refine j_goto 86 (dk dt_X12_textToken 39 rfl) (by decide) ?_
          exact j_el (T_X12_textToken_86 r_x1 m_68  hl he0 H) (And.intro rfl (And.intro rfl trivial))
def F_X12_textToken_92  (x1 : Int) (u : Mu) (P : Mu → Prop) : Prop :=
  (∀ u_96, u_96 = uI u 0 49 (w32 (x1 + 1)) → P u_96)
theorem T_X12_textToken_92  {x1 : Int} {u : Mu} {P : Mu → Prop} {h : Hp} {g : Nat → Nat} (r_x1 : R32 x1) (m : Ms h g u)   (H : F_X12_textToken_92 x1 u P) : J mX12_textToken 3 0 0 (nx (QMV g P)) 92 [some (vr (some (g 0))), some (ii (x1)), none] [] h := by
  unfold F_X12_textToken_92 at H
  refine j_aload_n (dk dt_X12_textToken 48 rfl) rfl ?_
  refine j_iload_n (dk dt_X12_textToken 49 rfl) rfl ?_
  refine j_iconst (v := Int32.ofInt 1) (dk dt_X12_textToken 50 rfl) (by decide) ?_
  refine jz_iadd (dk dt_X12_textToken 51 rfl) ?_
  refine jm_putI (kz := 49) (dk dt_X12_textToken 52 rfl) fl_X12_365 rfl rfl rfl rfl m (r32_w _) (fun h_96 m_96 => ?_)
  replace H := H _ rfl
  exact j_return (dk dt_X12_textToken 53 rfl) rfl ⟨_, rfl, m_96, H⟩
def F_X12_textToken_13  (x1 : Int) (u : Mu) (P : Mu → Prop) : Prop :=
  lp (S := Int × Mu) (E := (Int × Mu)) (fun q P_ => L_X12_textToken_13 q.1 q.2 P_) (x1, u) (fun e => match e with | (x1, u) => F_X12_textToken_92 x1 u P)
theorem T_X12_textToken_13  {x1 : Int} {u : Mu} {P : Mu → Prop} {h : Hp} {g : Nat → Nat} (r_x1 : R32 x1) (m : Ms h g u)   (H : F_X12_textToken_13 x1 u P) : J mX12_textToken 3 0 0 (nx (QMV g P)) 13 [some (vr (some (g 0))), some (ii (x1)), none] [] h := by
  unfold F_X12_textToken_13 at H
  refine lp_J (G := fun q => ∀ h : Hp, Ms h g (q.2) → R32 (q.1) → J mX12_textToken 3 0 0 (nx (QMV g P)) 13 [some (vr (some (g 0))), some (ii ((q.1))), none] [] h) (fun q P_ hl_ he_ Hb => ?_) (x1, u) H _ m r_x1
  obtain ⟨x1, u⟩ := q
  intro h m r_x1
  refine U_X12_textToken_13 (P := P_) r_x1 m  (fun x1 u h Hp m r_x1 => hl_ (x1, u) Hp h m r_x1) ?_ Hb
  · intro x1 u h Hp m r_x1
    have H := he_ _ Hp
    exact j_el (T_X12_textToken_92 r_x1 m   H) (And.intro rfl (And.intro rfl trivial))
def F_X12_textToken  (u : Mu) (P : Mu → Prop) : Prop :=
  F_X12_is 2 (w32 (mI u 0 46 + 1)) u (fun u_10 => F_X12_textToken_13 (w32 (mI u 0 46 + 1)) u_10 P)
theorem T_X12_textToken  {u : Mu} {P : Mu → Prop} {h : Hp} {g : Nat → Nat}  (m : Ms h g u)  (H : F_X12_textToken u P) : Con mX12_textToken 3 0 0 [vr (some (g 0))] h (QMV g P) := by
  refine con_of rfl (Nat.le_of_ble_eq_true rfl) (by decide) ?_
  show J mX12_textToken 3 0 0 _ 0 [some (vr (some (g 0))), none, none] [] h
  unfold F_X12_textToken at H
  refine j_aload_n (dk dt_X12_textToken 0 rfl) rfl ?_
  refine jm_getI (kz := 46) (dk dt_X12_textToken 1 rfl) fl_X12_371 rfl rfl m ?_
  refine j_iconst (v := Int32.ofInt 1) (dk dt_X12_textToken 2 rfl) (by decide) ?_
  refine jz_iadd (dk dt_X12_textToken 3 rfl) ?_
  refine j_istore_n (dk dt_X12_textToken 4 rfl) (by decide) ?_
  refine j_aload_n (dk dt_X12_textToken 5 rfl) rfl ?_
  refine j_iconst (v := Int32.ofInt 2) (dk dt_X12_textToken 6 rfl) (by decide) ?_
  refine j_iload_n (dk dt_X12_textToken 7 rfl) rfl ?_
  refine jz_callV2 (dk dt_X12_textToken 8 rfl) vl_X12_377 rfl (T_X12_is (by decide) (r32_w _) m H) m.1.1 rfl (by decide) (Nat.zero_le _) (Nat.zero_le _) (Nat.le_of_ble_eq_true rfl) (fun v_10 h_10 P_10 => ?_)
  obtain ⟨u_10, rfl, m_10, H⟩ := P_10
  dsimp only [rs]
  exact j_el (T_X12_textToken_13 (r32_w _) m_10   H) (And.intro rfl (And.intro rfl trivial))
def F_X12_wordToken_72  (u : Mu) (P : Mu → Prop) : Prop :=
  P u
theorem T_X12_wordToken_72  {u : Mu} {P : Mu → Prop} {h : Hp} {g : Nat → Nat}  (m : Ms h g u)   (H : F_X12_wordToken_72 u P) : J mX12_wordToken 4 0 0 (nx (QMV g P)) 72 [none, none, none] [] h := by
  unfold F_X12_wordToken_72 at H
  exact j_return (dk dt_X12_wordToken 36 rfl) rfl ⟨_, rfl, m, H⟩
def L_X12_wordToken_49  (x2 : Int) (u : Mu) (P : Int ⊕ ((Int)) → Prop) : Prop :=
  F_X12_byteAt x2 u (fun x_51 => F_X12_isLetter x_51 (fun x_54 => (if x_54 = 0 then P (.inr x2) else P (.inl (w32 (x2 + 1))))))
theorem U_X12_wordToken_49  {x2 : Int} {u : Mu} {P : Int ⊕ ((Int)) → Prop} {h : Hp} {g : Nat → Nat} {post : Option Sv ⊕ String → Hp → Prop} (r_x2 : R32 x2) (m : Ms h g u)  (hl : ∀ (x2 : Int), P (.inl x2) → R32 x2 → J mX12_wordToken 4 0 0 post 49 [some (vr (some (g 0))), none, some (ii (x2))] [] h) (he0 : ∀ (x2 : Int), P (.inr x2) → R32 x2 → J mX12_wordToken 4 0 0 post 66 [some (vr (some (g 0))), none, some (ii (x2))] [] h) (H : L_X12_wordToken_49 x2 u P) : J mX12_wordToken 4 0 0 post 49 [some (vr (some (g 0))), none, some (ii (x2))] [] h := by
  unfold L_X12_wordToken_49 at H
  refine j_aload_n (dk dt_X12_wordToken 25 rfl) rfl ?_
  refine j_iload_n (dk dt_X12_wordToken 26 rfl) rfl ?_
  refine jz_callV1 (dk dt_X12_wordToken 27 rfl) vl_X12_270 rfl (T_X12_byteAt r_x2 m H) m.1.1 rfl (by decide) (Nat.zero_le _) (Nat.zero_le _) (Nat.le_of_ble_eq_true rfl) (fun v_51 h_51 P_51 => ?_)
  obtain ⟨x_51, rfl, r_51, rfl, H⟩ := P_51
  dsimp only [rs]
  refine j_callS1 (dk dt_X12_wordToken 28 rfl) sl_X12_347 (T_X12_isLetter r_51 H) rfl (by decide) (Nat.zero_le _) (Nat.zero_le _) (Nat.le_of_ble_eq_true rfl) (fun v_54 h_54 P_54 => ?_)
  obtain ⟨x_54, rfl, r_54, rfl, H⟩ := P_54
  dsimp only [rs]
  refine jz_if_eq 66 (dk dt_X12_wordToken 29 rfl) (by decide) r_54 H (fun H => ?_) (fun H => ?_)
  · exact j_el (he0 _ H r_x2) (And.intro rfl (And.intro rfl trivial))
  · refine jz_iinc (dk dt_X12_wordToken 30 rfl) rfl ?_
    refine j_goto 49 (dk dt_X12_wordToken 31 rfl) (by decide) ?_
    exact j_el (hl _ H (r32_w _)) (And.intro rfl (And.intro rfl trivial))
def F_X12_wordToken_49  (x2 : Int) (u : Mu) (P : Mu → Prop) : Prop :=
  lp (S := Int) (E := (Int)) (fun q P_ => L_X12_wordToken_49 q u P_) x2 (fun (x2 : Int) => F_X12_is 4 x2 u (fun u_69 => F_X12_wordToken_72 u_69 P))
theorem T_X12_wordToken_49  {x2 : Int} {u : Mu} {P : Mu → Prop} {h : Hp} {g : Nat → Nat} (r_x2 : R32 x2) (m : Ms h g u)   (H : F_X12_wordToken_49 x2 u P) : J mX12_wordToken 4 0 0 (nx (QMV g P)) 49 [some (vr (some (g 0))), none, some (ii (x2))] [] h := by
  unfold F_X12_wordToken_49 at H
  refine lp_J (G := fun q => R32 (q) → J mX12_wordToken 4 0 0 (nx (QMV g P)) 49 [some (vr (some (g 0))), none, some (ii ((q)))] [] h) (fun x2 P_ hl_ he_ Hb => ?_) x2 H r_x2
  intro r_x2
  refine U_X12_wordToken_49 (P := P_) r_x2 m  (fun x2 Hp r_x2 => hl_ x2 Hp r_x2) ?_ Hb
  · intro x2 Hp r_x2
    have H := he_ _ Hp
    refine j_aload_n (dk dt_X12_wordToken 32 rfl) rfl ?_
    refine j_iconst (v := Int32.ofInt 4) (dk dt_X12_wordToken 33 rfl) (by decide) ?_
    refine j_iload_n (dk dt_X12_wordToken 34 rfl) rfl ?_
    refine jz_callV2 (dk dt_X12_wordToken 35 rfl) vl_X12_377 rfl (T_X12_is (by decide) r_x2 m H) m.1.1 rfl (by decide) (Nat.zero_le _) (Nat.zero_le _) (Nat.le_of_ble_eq_true rfl) (fun v_69 h_69 P_69 => ?_)
    obtain ⟨u_69, rfl, m_69, H⟩ := P_69
    dsimp only [rs]
    exact j_el (T_X12_wordToken_72  m_69   H) trivial
def F_X12_wordToken  (x1 : Int) (u : Mu) (P : Mu → Prop) : Prop :=
  F_X12_corner (mI u 0 46) u (fun x_5 u_5 => (if x_5 = 0 then (if x1 = 36 then F_X12_is 10 (w32 (mI u_5 0 46 + 1)) u_5 (fun u_38 => F_X12_wordToken_72 u_38 P) else F_X12_wordToken_49 (mI u_5 0 46) u_5 P) else F_X12_is 3 (mI u_5 0 55) u_5 (fun u_17 => F_X12_wordToken_72 u_17 P)))
theorem T_X12_wordToken  {x1 : Int} {u : Mu} {P : Mu → Prop} {h : Hp} {g : Nat → Nat} (r_x1 : R32 x1) (m : Ms h g u)  (H : F_X12_wordToken x1 u P) : Con mX12_wordToken 4 0 0 [vr (some (g 0)), ii (x1)] h (QMV g P) := by
  refine con_of rfl (Nat.le_of_ble_eq_true rfl) (by decide) ?_
  show J mX12_wordToken 4 0 0 _ 0 [some (vr (some (g 0))), some (ii (x1)), none] [] h
  unfold F_X12_wordToken at H
  refine j_aload_n (dk dt_X12_wordToken 0 rfl) rfl ?_
  refine j_aload_n (dk dt_X12_wordToken 1 rfl) rfl ?_
  refine jm_getI (kz := 46) (dk dt_X12_wordToken 2 rfl) fl_X12_371 rfl rfl m ?_
  refine jz_callV1 (dk dt_X12_wordToken 3 rfl) vl_X12_380 rfl (T_X12_corner (m.2.1.1 _ _) m H) m.1.1 rfl (by decide) (Nat.zero_le _) (Nat.zero_le _) (Nat.le_of_ble_eq_true rfl) (fun v_5 h_5 P_5 => ?_)
  obtain ⟨x_5, u_5, rfl, r_5, m_5, H⟩ := P_5
  dsimp only [rs]
  refine jz_if_eq 23 (dk dt_X12_wordToken 4 rfl) (by decide) r_5 H (fun H => ?_) (fun H => ?_)
  · refine j_iload_n (dk dt_X12_wordToken 11 rfl) rfl ?_
    refine j_bipush (v := Int32.ofInt 36) (dk dt_X12_wordToken 12 rfl) (by decide) ?_
    refine jz_icmp_ne 44 (dk dt_X12_wordToken 13 rfl) (by decide) r_x1 (by decide) H (fun H => ?_) (fun H => ?_)
    · refine j_aload_n (dk dt_X12_wordToken 14 rfl) rfl ?_
      refine j_bipush (v := Int32.ofInt 10) (dk dt_X12_wordToken 15 rfl) (by decide) ?_
      refine j_aload_n (dk dt_X12_wordToken 16 rfl) rfl ?_
      refine jm_getI (kz := 46) (dk dt_X12_wordToken 17 rfl) fl_X12_371 rfl rfl m_5 ?_
      refine j_iconst (v := Int32.ofInt 1) (dk dt_X12_wordToken 18 rfl) (by decide) ?_
      refine jz_iadd (dk dt_X12_wordToken 19 rfl) ?_
      refine jz_callV2 (dk dt_X12_wordToken 20 rfl) vl_X12_377 rfl (T_X12_is (by decide) (r32_w _) m_5 H) m_5.1.1 rfl (by decide) (Nat.zero_le _) (Nat.zero_le _) (Nat.le_of_ble_eq_true rfl) (fun v_38 h_38 P_38 => ?_)
      obtain ⟨u_38, rfl, m_38, H⟩ := P_38
      dsimp only [rs]
      refine j_goto 72 (dk dt_X12_wordToken 21 rfl) (by decide) ?_
      exact j_el (T_X12_wordToken_72  m_38   H) trivial
    · refine j_aload_n (dk dt_X12_wordToken 22 rfl) rfl ?_
      refine jm_getI (kz := 46) (dk dt_X12_wordToken 23 rfl) fl_X12_371 rfl rfl m_5 ?_
      refine j_istore_n (dk dt_X12_wordToken 24 rfl) (by decide) ?_
      exact j_el (T_X12_wordToken_49 (m_5.2.1.1 _ _) m_5   H) (And.intro rfl (And.intro rfl trivial))
  · refine j_aload_n (dk dt_X12_wordToken 5 rfl) rfl ?_
    refine j_iconst (v := Int32.ofInt 3) (dk dt_X12_wordToken 6 rfl) (by decide) ?_
    refine j_aload_n (dk dt_X12_wordToken 7 rfl) rfl ?_
    refine jm_getI (kz := 55) (dk dt_X12_wordToken 8 rfl) fl_X12_359 rfl rfl m_5 ?_
    refine jz_callV2 (dk dt_X12_wordToken 9 rfl) vl_X12_377 rfl (T_X12_is (by decide) (m_5.2.1.1 _ _) m_5 H) m_5.1.1 rfl (by decide) (Nat.zero_le _) (Nat.zero_le _) (Nat.le_of_ble_eq_true rfl) (fun v_17 h_17 P_17 => ?_)
    obtain ⟨u_17, rfl, m_17, H⟩ := P_17
    dsimp only [rs]
    refine j_goto 72 (dk dt_X12_wordToken 10 rfl) (by decide) ?_
    exact j_el (T_X12_wordToken_72  m_17   H) trivial
def L_X12_next_0  (u : Mu) (P : Mu ⊕ ((Mu)) → Prop) : Prop :=
  F_X12_byteAt (mI u 0 46) u (fun x_5 => (if x_5 = 32 then (∀ u_20, u_20 = uI u 0 46 (w32 (mI u 0 46 + 1)) → P (.inl u_20)) else P (.inr u)))
theorem U_X12_next_0  {u : Mu} {P : Mu ⊕ ((Mu)) → Prop} {h : Hp} {g : Nat → Nat} {post : Option Sv ⊕ String → Hp → Prop}  (m : Ms h g u)  (hl : ∀ (u : Mu) (h : Hp), P (.inl u) → Ms h g u → J mX12_next 8 0 0 post 0 [some (vr (some (g 0))), none] [] h) (he0 : ∀ (u : Mu) (h : Hp), P (.inr u) → Ms h g u → J mX12_next 8 0 0 post 26 [some (vr (some (g 0))), none] [] h) (H : L_X12_next_0 u P) : J mX12_next 8 0 0 post 0 [some (vr (some (g 0))), none] [] h := by
  unfold L_X12_next_0 at H
  refine j_aload_n (dk dt_X12_next 0 rfl) rfl ?_
  refine j_aload_n (dk dt_X12_next 1 rfl) rfl ?_
  refine jm_getI (kz := 46) (dk dt_X12_next 2 rfl) fl_X12_371 rfl rfl m ?_
  refine jz_callV1 (dk dt_X12_next 3 rfl) vl_X12_270 rfl (T_X12_byteAt (m.2.1.1 _ _) m H) m.1.1 rfl (by decide) (Nat.zero_le _) (Nat.zero_le _) (Nat.le_of_ble_eq_true rfl) (fun v_5 h_5 P_5 => ?_)
  obtain ⟨x_5, rfl, r_5, rfl, H⟩ := P_5
  dsimp only [rs]
  refine j_bipush (v := Int32.ofInt 32) (dk dt_X12_next 4 rfl) (by decide) ?_
  refine jz_icmp_ne 26 (dk dt_X12_next 5 rfl) (by decide) r_5 (by decide) H (fun H => ?_) (fun H => ?_)
  · refine j_aload_n (dk dt_X12_next 6 rfl) rfl ?_
    refine j_dup (dk dt_X12_next 7 rfl) rfl ?_
    refine jm_getI (kz := 46) (dk dt_X12_next 8 rfl) fl_X12_371 rfl rfl m ?_
    refine j_iconst (v := Int32.ofInt 1) (dk dt_X12_next 9 rfl) (by decide) ?_
    refine jz_iadd (dk dt_X12_next 10 rfl) ?_
    refine jm_putI (kz := 46) (dk dt_X12_next 11 rfl) fl_X12_371 rfl rfl rfl rfl m (r32_w _) (fun h_20 m_20 => ?_)
    replace H := H _ rfl
    refine j_goto 0 (dk dt_X12_next 12 rfl) (by decide) ?_
    exact j_el (hl _ _ H m_20) (And.intro rfl trivial)
  · exact j_el (he0 _ _ H m) (And.intro rfl trivial)
def F_X12_next_161  (u : Mu) (P : Mu → Prop) : Prop :=
  (∀ u_166, u_166 = uI u 0 46 (mI u 0 49) → P u_166)
theorem T_X12_next_161  {u : Mu} {P : Mu → Prop} {h : Hp} {g : Nat → Nat}  (m : Ms h g u)   (H : F_X12_next_161 u P) : J mX12_next 8 0 0 (nx (QMV g P)) 161 [some (vr (some (g 0))), none] [] h := by
  unfold F_X12_next_161 at H
  refine j_aload_n (dk dt_X12_next 81 rfl) rfl ?_
  refine j_aload_n (dk dt_X12_next 82 rfl) rfl ?_
  refine jm_getI (kz := 49) (dk dt_X12_next 83 rfl) fl_X12_365 rfl rfl m ?_
  refine jm_putI (kz := 46) (dk dt_X12_next 84 rfl) fl_X12_371 rfl rfl rfl rfl m (m.2.1.1 _ _) (fun h_166 m_166 => ?_)
  replace H := H _ rfl
  exact j_return (dk dt_X12_next 85 rfl) rfl ⟨_, rfl, m_166, H⟩
def F_X12_next_113  (x1 : Int) (u : Mu) (P : Mu → Prop) : Prop :=
  F_X12_wordToken x1 u (fun u_115 => F_X12_next_161 u_115 P)
theorem T_X12_next_113  {x1 : Int} {u : Mu} {P : Mu → Prop} {h : Hp} {g : Nat → Nat} (r_x1 : R32 x1) (m : Ms h g u)   (H : F_X12_next_113 x1 u P) : J mX12_next 8 0 0 (nx (QMV g P)) 113 [some (vr (some (g 0))), some (ii (x1))] [] h := by
  unfold F_X12_next_113 at H
  refine j_aload_n (dk dt_X12_next 56 rfl) rfl ?_
  refine j_iload_n (dk dt_X12_next 57 rfl) rfl ?_
  refine jz_callV1 (dk dt_X12_next 58 rfl) vl_X12_395 rfl (T_X12_wordToken r_x1 m H) m.1.1 rfl (by decide) (Nat.zero_le _) (Nat.zero_le _) (Nat.le_of_ble_eq_true rfl) (fun v_115 h_115 P_115 => ?_)
  obtain ⟨u_115, rfl, m_115, H⟩ := P_115
  dsimp only [rs]
  refine j_goto 161 (dk dt_X12_next 59 rfl) (by decide) ?_
  exact j_el (T_X12_next_161  m_115   H) (And.intro rfl trivial)
def F_X12_next_156  (x1 : Int) (u : Mu) (P : Mu → Prop) : Prop :=
  F_X12_signToken x1 u (fun u_158 => F_X12_next_161 u_158 P)
theorem T_X12_next_156  {x1 : Int} {u : Mu} {P : Mu → Prop} {h : Hp} {g : Nat → Nat} (r_x1 : R32 x1) (m : Ms h g u)   (H : F_X12_next_156 x1 u P) : J mX12_next 8 0 0 (nx (QMV g P)) 156 [some (vr (some (g 0))), some (ii (x1))] [] h := by
  unfold F_X12_next_156 at H
  refine j_aload_n (dk dt_X12_next 78 rfl) rfl ?_
  refine j_iload_n (dk dt_X12_next 79 rfl) rfl ?_
  refine jz_callV1 (dk dt_X12_next 80 rfl) vl_X12_401 rfl (T_X12_signToken r_x1 m H) m.1.1 rfl (by decide) (Nat.zero_le _) (Nat.zero_le _) (Nat.le_of_ble_eq_true rfl) (fun v_158 h_158 P_158 => ?_)
  obtain ⟨u_158, rfl, m_158, H⟩ := P_158
  dsimp only [rs]
  exact j_el (T_X12_next_161  m_158   H) (And.intro rfl trivial)
def F_X12_next_0  (u : Mu) (P : Mu → Prop) : Prop :=
  lp (S := Mu) (E := (Mu)) (fun q P_ => L_X12_next_0 q P_) u (fun (u : Mu) => (∀ u_31, u_31 = uI u 0 48 (mI u 0 46) → (∀ u_36, u_36 = uI u_31 0 51 (-1) → F_X12_byteAt (mI u_36 0 46) u_36 (fun x_44 => (if x_44 = (-1) then F_X12_is 0 (mI u_36 0 46) u_36 (fun u_59 => (∀ u_67, u_67 = uI u_59 0 48 (mI u_59 0 45) → F_X12_next_161 u_67 P)) else F_X12_isDigit x_44 (fun x_74 => (if x_74 = 0 then (if x_44 = 34 then F_X12_textToken u_36 (fun u_94 => F_X12_next_161 u_94 P) else F_X12_isLetter x_44 (fun x_101 => (if x_101 = 0 then (if x_44 = 36 then F_X12_next_113 x_44 u_36 P else (if x_44 = 35 then F_X12_isWord (mI u_36 0 46) 4 10 u_36 (fun x_136 => (if x_136 = 0 then F_X12_next_156 x_44 u_36 P else F_X12_is 5 (w32 (mI u_36 0 46 + 4)) u_36 (fun u_150 => F_X12_next_161 u_150 P))) else F_X12_next_156 x_44 u_36 P)) else F_X12_next_113 x_44 u_36 P))) else F_X12_numberToken u_36 (fun u_81 => F_X12_next_161 u_81 P))))))))
theorem T_X12_next_0  {u : Mu} {P : Mu → Prop} {h : Hp} {g : Nat → Nat}  (m : Ms h g u)   (H : F_X12_next_0 u P) : J mX12_next 8 0 0 (nx (QMV g P)) 0 [some (vr (some (g 0))), none] [] h := by
  unfold F_X12_next_0 at H
  refine lp_J (G := fun q => ∀ h : Hp, Ms h g (q) → J mX12_next 8 0 0 (nx (QMV g P)) 0 [some (vr (some (g 0))), none] [] h) (fun u P_ hl_ he_ Hb => ?_) u H _ m
  intro h m
  refine U_X12_next_0 (P := P_)  m  (fun u h Hp m => hl_ u Hp h m) ?_ Hb
  · intro u h Hp m
    have H := he_ _ Hp
    refine j_aload_n (dk dt_X12_next 13 rfl) rfl ?_
    refine j_aload_n (dk dt_X12_next 14 rfl) rfl ?_
    refine jm_getI (kz := 46) (dk dt_X12_next 15 rfl) fl_X12_371 rfl rfl m ?_
    refine jm_putI (kz := 48) (dk dt_X12_next 16 rfl) fl_X12_386 rfl rfl rfl rfl m (m.2.1.1 _ _) (fun h_31 m_31 => ?_)
    replace H := H _ rfl
    refine j_aload_n (dk dt_X12_next 17 rfl) rfl ?_
    refine j_iconst (v := Int32.ofInt (-1)) (dk dt_X12_next 18 rfl) (by decide) ?_
    refine jm_putI (kz := 51) (dk dt_X12_next 19 rfl) fl_X12_374 rfl rfl rfl rfl m_31 (by decide) (fun h_36 m_36 => ?_)
    replace H := H _ rfl
    refine j_aload_n (dk dt_X12_next 20 rfl) rfl ?_
    refine j_aload_n (dk dt_X12_next 21 rfl) rfl ?_
    refine jm_getI (kz := 46) (dk dt_X12_next 22 rfl) fl_X12_371 rfl rfl m_36 ?_
    refine jz_callV1 (dk dt_X12_next 23 rfl) vl_X12_270 rfl (T_X12_byteAt (m_36.2.1.1 _ _) m_36 H) m_36.1.1 rfl (by decide) (Nat.zero_le _) (Nat.zero_le _) (Nat.le_of_ble_eq_true rfl) (fun v_44 h_44 P_44 => ?_)
    obtain ⟨x_44, rfl, r_44, rfl, H⟩ := P_44
    dsimp only [rs]
    refine j_istore_n (dk dt_X12_next 24 rfl) (by decide) ?_
    refine j_iload_n (dk dt_X12_next 25 rfl) rfl ?_
    refine j_iconst (v := Int32.ofInt (-1)) (dk dt_X12_next 26 rfl) (by decide) ?_
    refine jz_icmp_ne 73 (dk dt_X12_next 27 rfl) (by decide) r_44 (by decide) H (fun H => ?_) (fun H => ?_)
    · refine j_aload_n (dk dt_X12_next 28 rfl) rfl ?_
      refine j_iconst (v := Int32.ofInt 0) (dk dt_X12_next 29 rfl) (by decide) ?_
      refine j_aload_n (dk dt_X12_next 30 rfl) rfl ?_
      refine jm_getI (kz := 46) (dk dt_X12_next 31 rfl) fl_X12_371 rfl rfl m_36 ?_
      refine jz_callV2 (dk dt_X12_next 32 rfl) vl_X12_377 rfl (T_X12_is (by decide) (m_36.2.1.1 _ _) m_36 H) m_36.1.1 rfl (by decide) (Nat.zero_le _) (Nat.zero_le _) (Nat.le_of_ble_eq_true rfl) (fun v_59 h_59 P_59 => ?_)
      obtain ⟨u_59, rfl, m_59, H⟩ := P_59
      dsimp only [rs]
      refine j_aload_n (dk dt_X12_next 33 rfl) rfl ?_
      refine j_aload_n (dk dt_X12_next 34 rfl) rfl ?_
      refine jm_getI (kz := 45) (dk dt_X12_next 35 rfl) fl_X12_324 rfl rfl m_59 ?_
      refine jm_putI (kz := 48) (dk dt_X12_next 36 rfl) fl_X12_386 rfl rfl rfl rfl m_59 (m_59.2.1.1 _ _) (fun h_67 m_67 => ?_)
      replace H := H _ rfl
      refine j_goto 161 (dk dt_X12_next 37 rfl) (by decide) ?_
      exact j_el (T_X12_next_161  m_67   H) (And.intro rfl trivial)
    · refine j_iload_n (dk dt_X12_next 38 rfl) rfl ?_
      refine j_callS1 (dk dt_X12_next 39 rfl) sl_X12_283 (T_X12_isDigit r_44 H) rfl (by decide) (Nat.zero_le _) (Nat.zero_le _) (Nat.le_of_ble_eq_true rfl) (fun v_74 h_74 P_74 => ?_)
      obtain ⟨x_74, rfl, r_74, rfl, H⟩ := P_74
      dsimp only [rs]
      refine jz_if_eq 87 (dk dt_X12_next 40 rfl) (by decide) r_74 H (fun H => ?_) (fun H => ?_)
      · refine j_iload_n (dk dt_X12_next 44 rfl) rfl ?_
        refine j_bipush (v := Int32.ofInt 34) (dk dt_X12_next 45 rfl) (by decide) ?_
        refine jz_icmp_ne 100 (dk dt_X12_next 46 rfl) (by decide) r_44 (by decide) H (fun H => ?_) (fun H => ?_)
        · refine j_aload_n (dk dt_X12_next 47 rfl) rfl ?_
          refine jz_callV0 (dk dt_X12_next 48 rfl) vl_X12_392 rfl (T_X12_textToken m_36 H) m_36.1.1 rfl (by decide) (Nat.zero_le _) (Nat.zero_le _) (Nat.le_of_ble_eq_true rfl) (fun v_94 h_94 P_94 => ?_)
          obtain ⟨u_94, rfl, m_94, H⟩ := P_94
          dsimp only [rs]
          refine j_goto 161 (dk dt_X12_next 49 rfl) (by decide) ?_
          exact j_el (T_X12_next_161  m_94   H) (And.intro rfl trivial)
        · refine j_iload_n (dk dt_X12_next 50 rfl) rfl ?_
          refine j_callS1 (dk dt_X12_next 51 rfl) sl_X12_347 (T_X12_isLetter r_44 H) rfl (by decide) (Nat.zero_le _) (Nat.zero_le _) (Nat.le_of_ble_eq_true rfl) (fun v_101 h_101 P_101 => ?_)
          obtain ⟨x_101, rfl, r_101, rfl, H⟩ := P_101
          dsimp only [rs]
          refine jz_if_ne 113 (dk dt_X12_next 52 rfl) (by decide) r_101 H (fun H => ?_) (fun H => ?_)
          · refine j_iload_n (dk dt_X12_next 53 rfl) rfl ?_
            refine j_bipush (v := Int32.ofInt 36) (dk dt_X12_next 54 rfl) (by decide) ?_
            refine jz_icmp_ne 121 (dk dt_X12_next 55 rfl) (by decide) r_44 (by decide) H (fun H => ?_) (fun H => ?_)
            · exact j_el (T_X12_next_113 r_44 m_36   H) (And.intro rfl (And.intro rfl trivial))
            · refine j_iload_n (dk dt_X12_next 60 rfl) rfl ?_
              refine j_bipush (v := Int32.ofInt 35) (dk dt_X12_next 61 rfl) (by decide) ?_
              refine jz_icmp_ne 156 (dk dt_X12_next 62 rfl) (by decide) r_44 (by decide) H (fun H => ?_) (fun H => ?_)
              · refine j_aload_n (dk dt_X12_next 63 rfl) rfl ?_
                refine j_aload_n (dk dt_X12_next 64 rfl) rfl ?_
                refine jm_getI (kz := 46) (dk dt_X12_next 65 rfl) fl_X12_371 rfl rfl m_36 ?_
                refine j_iconst (v := Int32.ofInt 4) (dk dt_X12_next 66 rfl) (by decide) ?_
                refine j_ldcwS 10 rfl (dk dt_X12_next 67 rfl) rfl rfl ?_
                refine jz_callV3 (dk dt_X12_next 68 rfl) vl_X12_312 rfl (T_X12_isWord (m_36.2.1.1 _ _) (by decide) m_36 H) m_36.1.1 rfl (by decide) (Nat.zero_le _) (Nat.zero_le _) (Nat.le_of_ble_eq_true rfl) (fun v_136 h_136 P_136 => ?_)
                obtain ⟨x_136, rfl, r_136, rfl, H⟩ := P_136
                dsimp only [rs]
                refine jz_if_eq 156 (dk dt_X12_next 69 rfl) (by decide) r_136 H (fun H => ?_) (fun H => ?_)
                · exact j_el (T_X12_next_156 r_44 m_36   H) (And.intro rfl (And.intro rfl trivial))
                · refine j_aload_n (dk dt_X12_next 70 rfl) rfl ?_
                  refine j_iconst (v := Int32.ofInt 5) (dk dt_X12_next 71 rfl) (by decide) ?_
                  refine j_aload_n (dk dt_X12_next 72 rfl) rfl ?_
                  refine jm_getI (kz := 46) (dk dt_X12_next 73 rfl) fl_X12_371 rfl rfl m_36 ?_
                  refine j_iconst (v := Int32.ofInt 4) (dk dt_X12_next 74 rfl) (by decide) ?_
                  refine jz_iadd (dk dt_X12_next 75 rfl) ?_
                  refine jz_callV2 (dk dt_X12_next 76 rfl) vl_X12_377 rfl (T_X12_is (by decide) (r32_w _) m_36 H) m_36.1.1 rfl (by decide) (Nat.zero_le _) (Nat.zero_le _) (Nat.le_of_ble_eq_true rfl) (fun v_150 h_150 P_150 => ?_)
                  obtain ⟨u_150, rfl, m_150, H⟩ := P_150
                  dsimp only [rs]
                  refine j_goto 161 (dk dt_X12_next 77 rfl) (by decide) ?_
                  exact j_el (T_X12_next_161  m_150   H) (And.intro rfl trivial)
              · exact j_el (T_X12_next_156 r_44 m_36   H) (And.intro rfl (And.intro rfl trivial))
          · exact j_el (T_X12_next_113 r_44 m_36   H) (And.intro rfl (And.intro rfl trivial))
      · refine j_aload_n (dk dt_X12_next 41 rfl) rfl ?_
        refine jz_callV0 (dk dt_X12_next 42 rfl) vl_X12_389 rfl (T_X12_numberToken m_36 H) m_36.1.1 rfl (by decide) (Nat.zero_le _) (Nat.zero_le _) (Nat.le_of_ble_eq_true rfl) (fun v_81 h_81 P_81 => ?_)
        obtain ⟨u_81, rfl, m_81, H⟩ := P_81
        dsimp only [rs]
        refine j_goto 161 (dk dt_X12_next 43 rfl) (by decide) ?_
        exact j_el (T_X12_next_161  m_81   H) (And.intro rfl trivial)
def F_X12_next  (u : Mu) (P : Mu → Prop) : Prop :=
  F_X12_next_0 u P
theorem T_X12_next  {u : Mu} {P : Mu → Prop} {h : Hp} {g : Nat → Nat}  (m : Ms h g u)  (H : F_X12_next u P) : Con mX12_next 8 0 0 [vr (some (g 0))] h (QMV g P) := by
  refine con_of rfl (Nat.le_of_ble_eq_true rfl) (by decide) ?_
  show J mX12_next 8 0 0 _ 0 [some (vr (some (g 0))), none] [] h
  unfold F_X12_next at H
  exact j_el (T_X12_next_0  m   H) (And.intro rfl trivial)
def F_X12_opens  (u : Mu) (P : Int → Mu → Prop) : Prop :=
  (if mI u 0 57 = 20 then F_X12_fail 2 (mI u 0 48) u (fun u_15 => P 0 u_15) else (∀ u_27, u_27 = uI u 0 57 (w32 (mI u 0 57 + 1)) → P 1 u_27))
theorem T_X12_opens  {u : Mu} {P : Int → Mu → Prop} {h : Hp} {g : Nat → Nat}  (m : Ms h g u)  (H : F_X12_opens u P) : Con mX12_opens 2 0 0 [vr (some (g 0))] h (QMI g P) := by
  refine con_of rfl (Nat.le_of_ble_eq_true rfl) (by decide) ?_
  show J mX12_opens 2 0 0 _ 0 [some (vr (some (g 0)))] [] h
  unfold F_X12_opens at H
  refine j_aload_n (dk dt_X12_opens 0 rfl) rfl ?_
  refine jm_getI (kz := 57) (dk dt_X12_opens 1 rfl) fl_X12_410 rfl rfl m ?_
  refine j_bipush (v := Int32.ofInt 20) (dk dt_X12_opens 2 rfl) (by decide) ?_
  refine jz_icmp_ne 20 (dk dt_X12_opens 3 rfl) (by decide) (m.2.1.1 _ _) (by decide) H (fun H => ?_) (fun H => ?_)
  · refine j_aload_n (dk dt_X12_opens 4 rfl) rfl ?_
    refine j_iconst (v := Int32.ofInt 2) (dk dt_X12_opens 5 rfl) (by decide) ?_
    refine j_aload_n (dk dt_X12_opens 6 rfl) rfl ?_
    refine jm_getI (kz := 48) (dk dt_X12_opens 7 rfl) fl_X12_386 rfl rfl m ?_
    refine jz_callV2 (dk dt_X12_opens 8 rfl) vl_X12_296 rfl (T_X12_fail (by decide) (m.2.1.1 _ _) m H) m.1.1 rfl (by decide) (Nat.zero_le _) (Nat.zero_le _) (Nat.le_of_ble_eq_true rfl) (fun v_15 h_15 P_15 => ?_)
    obtain ⟨u_15, rfl, m_15, H⟩ := P_15
    dsimp only [rs]
    refine j_iconst (v := Int32.ofInt 0) (dk dt_X12_opens 9 rfl) (by decide) ?_
    exact j_ireturn (dk dt_X12_opens 10 rfl) rfl (nar_z (by decide)) ⟨_, _, rfl, (by decide), m_15, H⟩
  · refine j_aload_n (dk dt_X12_opens 11 rfl) rfl ?_
    refine j_dup (dk dt_X12_opens 12 rfl) rfl ?_
    refine jm_getI (kz := 57) (dk dt_X12_opens 13 rfl) fl_X12_410 rfl rfl m ?_
    refine j_iconst (v := Int32.ofInt 1) (dk dt_X12_opens 14 rfl) (by decide) ?_
    refine jz_iadd (dk dt_X12_opens 15 rfl) ?_
    refine jm_putI (kz := 57) (dk dt_X12_opens 16 rfl) fl_X12_410 rfl rfl rfl rfl m (r32_w _) (fun h_27 m_27 => ?_)
    replace H := H _ rfl
    refine j_iconst (v := Int32.ofInt 1) (dk dt_X12_opens 17 rfl) (by decide) ?_
    exact j_ireturn (dk dt_X12_opens 18 rfl) rfl (nar_z (by decide)) ⟨_, _, rfl, (by decide), m_27, H⟩
def L_X12_part_54  (x2 : Int) (x3 : Int) (x4 : Int) (x5 : Int) (x6 : Int) (u : Mu) (P : (Int × Int × Int) ⊕ ((Int)) → Prop) : Prop :=
  (if x2 ≤ x6 then P (.inr x4) else (0 ≤ x5 ∧ x5 < 60420 ∧ P (.inl (w32 (x4 + (mI u 28 x5)), w32 (x5 - (mI u 28 x5)), w32 (x6 + 1)))))
theorem U_X12_part_54  {x2 : Int} {x3 : Int} {x4 : Int} {x5 : Int} {x6 : Int} {u : Mu} {P : (Int × Int × Int) ⊕ ((Int)) → Prop} {h : Hp} {g : Nat → Nat} {post : Option Sv ⊕ String → Hp → Prop} (r_x2 : R32 x2) (r_x3 : R32 x3) (r_x4 : R32 x4) (r_x5 : R32 x5) (r_x6 : R32 x6) (m : Ms h g u)  (hl : ∀ (x4 : Int) (x5 : Int) (x6 : Int), P (.inl (x4, x5, x6)) → R32 x4 → R32 x5 → R32 x6 → J mX12_part 1 0 0 post 54 [some (vr (some (g 0))), none, some (ii (x2)), some (ii (x3)), some (ii (x4)), some (ii (x5)), some (ii (x6))] [] h) (he0 : ∀ (x4 : Int), P (.inr x4) → R32 x4 → J mX12_part 1 0 0 post 90 [some (vr (some (g 0))), none, none, some (ii (x3)), some (ii (x4)), none, none] [] h) (H : L_X12_part_54 x2 x3 x4 x5 x6 u P) : J mX12_part 1 0 0 post 54 [some (vr (some (g 0))), none, some (ii (x2)), some (ii (x3)), some (ii (x4)), some (ii (x5)), some (ii (x6))] [] h := by
  unfold L_X12_part_54 at H
  refine j_iload (dk dt_X12_part 35 rfl) rfl ?_
  refine j_iload_n (dk dt_X12_part 36 rfl) rfl ?_
  refine jz_icmp_ge 90 (dk dt_X12_part 37 rfl) (by decide) r_x6 r_x2 H (fun H => ?_) (fun H => ?_)
  · exact j_el (he0 _ H r_x4) (And.intro rfl (And.intro rfl (And.intro rfl trivial)))
  · refine j_iload (dk dt_X12_part 38 rfl) rfl ?_
    refine j_aload_n (dk dt_X12_part 39 rfl) rfl ?_
    refine jm_getA (dk dt_X12_part 40 rfl) fl_X12_73 rfl (c := 14) rfl m ?_
    refine j_iload (dk dt_X12_part 41 rfl) rfl ?_
    obtain ⟨p_68, q_68, H⟩ := H
    refine jm_iald (dk dt_X12_part 42 rfl) rfl rfl m p_68 q_68 ?_
    refine jz_iadd (dk dt_X12_part 43 rfl) ?_
    refine j_istore (dk dt_X12_part 44 rfl) (by decide) ?_
    refine j_iload (dk dt_X12_part 45 rfl) rfl ?_
    refine j_aload_n (dk dt_X12_part 46 rfl) rfl ?_
    refine jm_getA (dk dt_X12_part 47 rfl) fl_X12_73 rfl (c := 14) rfl m ?_
    refine j_iload (dk dt_X12_part 48 rfl) rfl ?_
    refine jm_iald (dk dt_X12_part 49 rfl) rfl rfl m p_68 q_68 ?_
    refine jz_isub (dk dt_X12_part 50 rfl) ?_
    refine j_istore (dk dt_X12_part 51 rfl) (by decide) ?_
    refine jz_iinc (dk dt_X12_part 52 rfl) rfl ?_
    refine j_goto 54 (dk dt_X12_part 53 rfl) (by decide) ?_
    exact j_el (hl _ _ _ H (r32_w _) (r32_w _) (r32_w _)) (And.intro rfl (And.intro rfl (And.intro rfl (And.intro rfl (And.intro rfl (And.intro rfl trivial))))))
def F_X12_part_54  (x2 : Int) (x3 : Int) (x4 : Int) (x5 : Int) (x6 : Int) (u : Mu) (P : Int → Mu → Prop) : Prop :=
  lp (S := Int × Int × Int) (E := (Int)) (fun q P_ => L_X12_part_54 x2 x3 q.1 q.2.1 q.2.2 u P_) (x4, x5, x6) (fun (x4 : Int) => (0 ≤ x3 ∧ x3 < 60420 ∧ (∀ u_97, u_97 = uI u 28 x3 x4 → (0 ≤ x3 ∧ x3 < 60420 ∧ (∀ u_104, u_104 = uG u_97 29 x3 0 → (0 ≤ x3 ∧ x3 < 60420 ∧ (∀ u_111, u_111 = uI u_104 30 x3 0 → (0 ≤ x3 ∧ x3 < 60420 ∧ (∀ u_118, u_118 = uI u_111 31 x3 0 → (0 ≤ x3 ∧ x3 < 60420 ∧ (∀ u_125, u_125 = uI u_118 32 x3 (-1) → (0 ≤ x3 ∧ x3 < 60420 ∧ (∀ u_132, u_132 = uI u_125 33 x3 (-1) → (0 ≤ x3 ∧ x3 < 60420 ∧ (∀ u_139, u_139 = uI u_132 34 x3 (-1) → (0 ≤ x3 ∧ x3 < 60420 ∧ (∀ u_146, u_146 = uI u_139 35 x3 (-1) → (0 ≤ x3 ∧ x3 < 60420 ∧ (∀ u_153, u_153 = uI u_146 36 x3 0 → (0 ≤ x3 ∧ x3 < 60420 ∧ (∀ u_160, u_160 = uI u_153 37 x3 (-1) → P x3 u_160)))))))))))))))))))))
theorem T_X12_part_54  {x2 : Int} {x3 : Int} {x4 : Int} {x5 : Int} {x6 : Int} {u : Mu} {P : Int → Mu → Prop} {h : Hp} {g : Nat → Nat} (r_x2 : R32 x2) (r_x3 : R32 x3) (r_x4 : R32 x4) (r_x5 : R32 x5) (r_x6 : R32 x6) (m : Ms h g u)   (H : F_X12_part_54 x2 x3 x4 x5 x6 u P) : J mX12_part 1 0 0 (nx (QMI g P)) 54 [some (vr (some (g 0))), none, some (ii (x2)), some (ii (x3)), some (ii (x4)), some (ii (x5)), some (ii (x6))] [] h := by
  unfold F_X12_part_54 at H
  refine lp_J (G := fun q => R32 (q.1) → R32 (q.2.1) → R32 (q.2.2) → J mX12_part 1 0 0 (nx (QMI g P)) 54 [some (vr (some (g 0))), none, some (ii (x2)), some (ii (x3)), some (ii ((q.1))), some (ii ((q.2.1))), some (ii ((q.2.2)))] [] h) (fun q P_ hl_ he_ Hb => ?_) (x4, x5, x6) H r_x4 r_x5 r_x6
  obtain ⟨x4, x5, x6⟩ := q
  intro r_x4 r_x5 r_x6
  refine U_X12_part_54 (P := P_) r_x2 r_x3 r_x4 r_x5 r_x6 m  (fun x4 x5 x6 Hp r_x4 r_x5 r_x6 => hl_ (x4, x5, x6) Hp r_x4 r_x5 r_x6) ?_ Hb
  · intro x4 Hp r_x4
    have H := he_ _ Hp
    refine j_aload_n (dk dt_X12_part 54 rfl) rfl ?_
    refine jm_getA (dk dt_X12_part 55 rfl) fl_X12_73 rfl (c := 14) rfl m ?_
    refine j_iload_n (dk dt_X12_part 56 rfl) rfl ?_
    refine j_iload (dk dt_X12_part 57 rfl) rfl ?_
    obtain ⟨p_97, q_97, H⟩ := H
    refine jm_iast (dk dt_X12_part 58 rfl) rfl rfl m p_97 q_97 r_x4 (fun h_97 m_97 => ?_)
    replace H := H _ rfl
    refine j_aload_n (dk dt_X12_part 59 rfl) rfl ?_
    refine jm_getA (dk dt_X12_part 60 rfl) fl_X12_76 rfl (c := 15) rfl m_97 ?_
    refine j_iload_n (dk dt_X12_part 61 rfl) rfl ?_
    refine j_lconst (v := Int64.ofInt 0) (dk dt_X12_part 62 rfl) (by decide) ?_
    obtain ⟨p_104, q_104, H⟩ := H
    refine jm_last (dk dt_X12_part 63 rfl) rfl rfl m_97 p_104 q_104 (by decide) (fun h_104 m_104 => ?_)
    replace H := H _ rfl
    refine j_aload_n (dk dt_X12_part 64 rfl) rfl ?_
    refine jm_getA (dk dt_X12_part 65 rfl) fl_X12_79 rfl (c := 14) rfl m_104 ?_
    refine j_iload_n (dk dt_X12_part 66 rfl) rfl ?_
    refine j_iconst (v := Int32.ofInt 0) (dk dt_X12_part 67 rfl) (by decide) ?_
    obtain ⟨p_111, q_111, H⟩ := H
    refine jm_iast (dk dt_X12_part 68 rfl) rfl rfl m_104 p_111 q_111 (by decide) (fun h_111 m_111 => ?_)
    replace H := H _ rfl
    refine j_aload_n (dk dt_X12_part 69 rfl) rfl ?_
    refine jm_getA (dk dt_X12_part 70 rfl) fl_X12_82 rfl (c := 14) rfl m_111 ?_
    refine j_iload_n (dk dt_X12_part 71 rfl) rfl ?_
    refine j_iconst (v := Int32.ofInt 0) (dk dt_X12_part 72 rfl) (by decide) ?_
    obtain ⟨p_118, q_118, H⟩ := H
    refine jm_iast (dk dt_X12_part 73 rfl) rfl rfl m_111 p_118 q_118 (by decide) (fun h_118 m_118 => ?_)
    replace H := H _ rfl
    refine j_aload_n (dk dt_X12_part 74 rfl) rfl ?_
    refine jm_getA (dk dt_X12_part 75 rfl) fl_X12_85 rfl (c := 14) rfl m_118 ?_
    refine j_iload_n (dk dt_X12_part 76 rfl) rfl ?_
    refine j_iconst (v := Int32.ofInt (-1)) (dk dt_X12_part 77 rfl) (by decide) ?_
    obtain ⟨p_125, q_125, H⟩ := H
    refine jm_iast (dk dt_X12_part 78 rfl) rfl rfl m_118 p_125 q_125 (by decide) (fun h_125 m_125 => ?_)
    replace H := H _ rfl
    refine j_aload_n (dk dt_X12_part 79 rfl) rfl ?_
    refine jm_getA (dk dt_X12_part 80 rfl) fl_X12_88 rfl (c := 14) rfl m_125 ?_
    refine j_iload_n (dk dt_X12_part 81 rfl) rfl ?_
    refine j_iconst (v := Int32.ofInt (-1)) (dk dt_X12_part 82 rfl) (by decide) ?_
    obtain ⟨p_132, q_132, H⟩ := H
    refine jm_iast (dk dt_X12_part 83 rfl) rfl rfl m_125 p_132 q_132 (by decide) (fun h_132 m_132 => ?_)
    replace H := H _ rfl
    refine j_aload_n (dk dt_X12_part 84 rfl) rfl ?_
    refine jm_getA (dk dt_X12_part 85 rfl) fl_X12_91 rfl (c := 14) rfl m_132 ?_
    refine j_iload_n (dk dt_X12_part 86 rfl) rfl ?_
    refine j_iconst (v := Int32.ofInt (-1)) (dk dt_X12_part 87 rfl) (by decide) ?_
    obtain ⟨p_139, q_139, H⟩ := H
    refine jm_iast (dk dt_X12_part 88 rfl) rfl rfl m_132 p_139 q_139 (by decide) (fun h_139 m_139 => ?_)
    replace H := H _ rfl
    refine j_aload_n (dk dt_X12_part 89 rfl) rfl ?_
    refine jm_getA (dk dt_X12_part 90 rfl) fl_X12_94 rfl (c := 14) rfl m_139 ?_
    refine j_iload_n (dk dt_X12_part 91 rfl) rfl ?_
    refine j_iconst (v := Int32.ofInt (-1)) (dk dt_X12_part 92 rfl) (by decide) ?_
    obtain ⟨p_146, q_146, H⟩ := H
    refine jm_iast (dk dt_X12_part 93 rfl) rfl rfl m_139 p_146 q_146 (by decide) (fun h_146 m_146 => ?_)
    replace H := H _ rfl
    refine j_aload_n (dk dt_X12_part 94 rfl) rfl ?_
    refine jm_getA (dk dt_X12_part 95 rfl) fl_X12_97 rfl (c := 14) rfl m_146 ?_
    refine j_iload_n (dk dt_X12_part 96 rfl) rfl ?_
    refine j_iconst (v := Int32.ofInt 0) (dk dt_X12_part 97 rfl) (by decide) ?_
    obtain ⟨p_153, q_153, H⟩ := H
    refine jm_iast (dk dt_X12_part 98 rfl) rfl rfl m_146 p_153 q_153 (by decide) (fun h_153 m_153 => ?_)
    replace H := H _ rfl
    refine j_aload_n (dk dt_X12_part 99 rfl) rfl ?_
    refine jm_getA (dk dt_X12_part 100 rfl) fl_X12_100 rfl (c := 14) rfl m_153 ?_
    refine j_iload_n (dk dt_X12_part 101 rfl) rfl ?_
    refine j_iconst (v := Int32.ofInt (-1)) (dk dt_X12_part 102 rfl) (by decide) ?_
    obtain ⟨p_160, q_160, H⟩ := H
    refine jm_iast (dk dt_X12_part 103 rfl) rfl rfl m_153 p_160 q_160 (by decide) (fun h_160 m_160 => ?_)
    replace H := H _ rfl
    refine j_iload_n (dk dt_X12_part 104 rfl) rfl ?_
    exact j_ireturn (dk dt_X12_part 105 rfl) rfl rfl ⟨_, _, rfl, r_x3, m_160, H⟩
def F_X12_part  (x1 : Int) (x2 : Int) (u : Mu) (P : Int → Mu → Prop) : Prop :=
  (if mI u 0 41 ≤ 0 then (∀ u_26, u_26 = uI u 0 56 (w32 (mI u 0 56 + 1)) → (0 ≤ w32 (mI u 0 25 + (mI u 0 56)) ∧ w32 (mI u 0 25 + (mI u 0 56)) < 60420 ∧ (∀ u_35, u_35 = uI u_26 26 (w32 (mI u 0 25 + (mI u 0 56))) x1 → (0 ≤ w32 (mI u 0 25 + (mI u 0 56)) ∧ w32 (mI u 0 25 + (mI u 0 56)) < 60420 ∧ (∀ u_42, u_42 = uI u_35 27 (w32 (mI u 0 25 + (mI u 0 56))) x2 → F_X12_part_54 x2 (w32 (mI u 0 25 + (mI u 0 56))) 1 (w32 ((w32 (mI u 0 25 + (mI u 0 56))) - 1)) 0 u_42 P))))) else P (w32 (mI u 0 25 + (mI u 0 56))) u)
theorem T_X12_part  {x1 : Int} {x2 : Int} {u : Mu} {P : Int → Mu → Prop} {h : Hp} {g : Nat → Nat} (r_x1 : R32 x1) (r_x2 : R32 x2) (m : Ms h g u)  (H : F_X12_part x1 x2 u P) : Con mX12_part 1 0 0 [vr (some (g 0)), ii (x1), ii (x2)] h (QMI g P) := by
  refine con_of rfl (Nat.le_of_ble_eq_true rfl) (by decide) ?_
  show J mX12_part 1 0 0 _ 0 [some (vr (some (g 0))), some (ii (x1)), some (ii (x2)), none, none, none, none] [] h
  unfold F_X12_part at H
  refine j_aload_n (dk dt_X12_part 0 rfl) rfl ?_
  refine jm_getI (kz := 25) (dk dt_X12_part 1 rfl) fl_X12_336 rfl rfl m ?_
  refine j_aload_n (dk dt_X12_part 2 rfl) rfl ?_
  refine jm_getI (kz := 56) (dk dt_X12_part 3 rfl) fl_X12_327 rfl rfl m ?_
  refine jz_iadd (dk dt_X12_part 4 rfl) ?_
  refine j_istore_n (dk dt_X12_part 5 rfl) (by decide) ?_
  refine j_aload_n (dk dt_X12_part 6 rfl) rfl ?_
  refine jm_getI (kz := 41) (dk dt_X12_part 7 rfl) fl_X12_277 rfl rfl m ?_
  refine jz_if_le 19 (dk dt_X12_part 8 rfl) (by decide) (m.2.1.1 _ _) H (fun H => ?_) (fun H => ?_)
  · refine j_aload_n (dk dt_X12_part 11 rfl) rfl ?_
    refine j_dup (dk dt_X12_part 12 rfl) rfl ?_
    refine jm_getI (kz := 56) (dk dt_X12_part 13 rfl) fl_X12_327 rfl rfl m ?_
    refine j_iconst (v := Int32.ofInt 1) (dk dt_X12_part 14 rfl) (by decide) ?_
    refine jz_iadd (dk dt_X12_part 15 rfl) ?_
    refine jm_putI (kz := 56) (dk dt_X12_part 16 rfl) fl_X12_327 rfl rfl rfl rfl m (r32_w _) (fun h_26 m_26 => ?_)
    replace H := H _ rfl
    refine j_aload_n (dk dt_X12_part 17 rfl) rfl ?_
    refine jm_getA (dk dt_X12_part 18 rfl) fl_X12_67 rfl (c := 14) rfl m_26 ?_
    refine j_iload_n (dk dt_X12_part 19 rfl) rfl ?_
    refine j_iload_n (dk dt_X12_part 20 rfl) rfl ?_
    obtain ⟨p_35, q_35, H⟩ := H
    refine jm_iast (dk dt_X12_part 21 rfl) rfl rfl m_26 p_35 q_35 r_x1 (fun h_35 m_35 => ?_)
    replace H := H _ rfl
    refine j_aload_n (dk dt_X12_part 22 rfl) rfl ?_
    refine jm_getA (dk dt_X12_part 23 rfl) fl_X12_70 rfl (c := 14) rfl m_35 ?_
    refine j_iload_n (dk dt_X12_part 24 rfl) rfl ?_
    refine j_iload_n (dk dt_X12_part 25 rfl) rfl ?_
    obtain ⟨p_42, q_42, H⟩ := H
    refine jm_iast (dk dt_X12_part 26 rfl) rfl rfl m_35 p_42 q_42 r_x2 (fun h_42 m_42 => ?_)
    replace H := H _ rfl
    refine j_iconst (v := Int32.ofInt 1) (dk dt_X12_part 27 rfl) (by decide) ?_
    refine j_istore (dk dt_X12_part 28 rfl) (by decide) ?_
    refine j_iload_n (dk dt_X12_part 29 rfl) rfl ?_
    refine j_iconst (v := Int32.ofInt 1) (dk dt_X12_part 30 rfl) (by decide) ?_
    refine jz_isub (dk dt_X12_part 31 rfl) ?_
    refine j_istore (dk dt_X12_part 32 rfl) (by decide) ?_
    refine j_iconst (v := Int32.ofInt 0) (dk dt_X12_part 33 rfl) (by decide) ?_
    refine j_istore (dk dt_X12_part 34 rfl) (by decide) ?_
    exact j_el (T_X12_part_54 r_x2 (r32_w _) (by decide) (r32_w _) (by decide) m_42   H) (And.intro rfl (And.intro rfl (And.intro rfl (And.intro rfl (And.intro rfl (And.intro rfl trivial))))))
  · refine j_iload_n (dk dt_X12_part 9 rfl) rfl ?_
    exact j_ireturn (dk dt_X12_part 10 rfl) rfl rfl ⟨_, _, rfl, (r32_w _), m, H⟩
def F_X12_readPlain_99  (u : Mu) (P : Mu → Prop) : Prop :=
  F_X12_next u (fun u_100 => P u_100)
theorem T_X12_readPlain_99  {u : Mu} {P : Mu → Prop} {h : Hp} {g : Nat → Nat}  (m : Ms h g u)   (H : F_X12_readPlain_99 u P) : J mX12_readPlain 9 0 0 (nx (QMV g P)) 99 [some (vr (some (g 0))), none] [] h := by
  unfold F_X12_readPlain_99 at H
  refine j_aload_n (dk dt_X12_readPlain 59 rfl) rfl ?_
  refine jz_callV0 (dk dt_X12_readPlain 60 rfl) vl_X12_413 rfl (T_X12_next m H) m.1.1 rfl (by decide) (Nat.zero_le _) (Nat.zero_le _) (Nat.le_of_ble_eq_true rfl) (fun v_100 h_100 P_100 => ?_)
  obtain ⟨u_100, rfl, m_100, H⟩ := P_100
  dsimp only [rs]
  exact j_return (dk dt_X12_readPlain 61 rfl) rfl ⟨_, rfl, m_100, H⟩
def F_X12_readPlain  (u : Mu) (P : Mu → Prop) : Prop :=
  (if mI u 0 51 < 0 then (if mI u 0 47 = 1 then F_X12_part 1 0 u (fun x_28 u_28 => F_X12_numberFrom (mI u_28 0 48) (mI u_28 0 49) u_28 (fun x_46 => (0 ≤ x_28 ∧ x_28 < 60420 ∧ (∀ u_49, u_49 = uG u_28 29 x_28 x_46 → F_X12_readPlain_99 u_49 P)))) else F_X12_part 2 0 u (fun x_56 u_56 => F_X12_kept (w32 (mI u_56 0 48 + 1)) (w32 ((mI u_56 0 49) - 1)) u_56 (fun x_78 u_78 => (0 ≤ x_56 ∧ x_56 < 60420 ∧ (∀ u_81, u_81 = uI u_78 30 x_56 x_78 → (0 ≤ x_56 ∧ x_56 < 60420 ∧ (∀ u_98, u_98 = uI u_81 31 x_56 (w32 ((w32 ((mI u_81 0 49) - (mI u_81 0 48))) - 2)) → F_X12_readPlain_99 u_98 P))))))) else F_X12_fail 1 (mI u 0 51) u (fun u_13 => P u_13))
theorem T_X12_readPlain  {u : Mu} {P : Mu → Prop} {h : Hp} {g : Nat → Nat}  (m : Ms h g u)  (H : F_X12_readPlain u P) : Con mX12_readPlain 9 0 0 [vr (some (g 0))] h (QMV g P) := by
  refine con_of rfl (Nat.le_of_ble_eq_true rfl) (by decide) ?_
  show J mX12_readPlain 9 0 0 _ 0 [some (vr (some (g 0))), none] [] h
  unfold F_X12_readPlain at H
  refine j_aload_n (dk dt_X12_readPlain 0 rfl) rfl ?_
  refine jm_getI (kz := 51) (dk dt_X12_readPlain 1 rfl) fl_X12_374 rfl rfl m ?_
  refine jz_if_lt 17 (dk dt_X12_readPlain 2 rfl) (by decide) (m.2.1.1 _ _) H (fun H => ?_) (fun H => ?_)
  · refine j_aload_n (dk dt_X12_readPlain 9 rfl) rfl ?_
    refine jm_getI (kz := 47) (dk dt_X12_readPlain 10 rfl) fl_X12_362 rfl rfl m ?_
    refine j_iconst (v := Int32.ofInt 1) (dk dt_X12_readPlain 11 rfl) (by decide) ?_
    refine jz_icmp_ne 53 (dk dt_X12_readPlain 12 rfl) (by decide) (m.2.1.1 _ _) (by decide) H (fun H => ?_) (fun H => ?_)
    · refine j_aload_n (dk dt_X12_readPlain 13 rfl) rfl ?_
      refine j_iconst (v := Int32.ofInt 1) (dk dt_X12_readPlain 14 rfl) (by decide) ?_
      refine j_iconst (v := Int32.ofInt 0) (dk dt_X12_readPlain 15 rfl) (by decide) ?_
      refine jz_callV2 (dk dt_X12_readPlain 16 rfl) vl_X12_425 rfl (T_X12_part (by decide) (by decide) m H) m.1.1 rfl (by decide) (Nat.zero_le _) (Nat.zero_le _) (Nat.le_of_ble_eq_true rfl) (fun v_28 h_28 P_28 => ?_)
      obtain ⟨x_28, u_28, rfl, r_28, m_28, H⟩ := P_28
      dsimp only [rs]
      refine j_istore_n (dk dt_X12_readPlain 17 rfl) (by decide) ?_
      refine j_aload_n (dk dt_X12_readPlain 18 rfl) rfl ?_
      refine jm_getA (dk dt_X12_readPlain 19 rfl) fl_X12_76 rfl (c := 15) rfl m_28 ?_
      refine j_iload_n (dk dt_X12_readPlain 20 rfl) rfl ?_
      refine j_aload_n (dk dt_X12_readPlain 21 rfl) rfl ?_
      refine j_aload_n (dk dt_X12_readPlain 22 rfl) rfl ?_
      refine jm_getI (kz := 48) (dk dt_X12_readPlain 23 rfl) fl_X12_386 rfl rfl m_28 ?_
      refine j_aload_n (dk dt_X12_readPlain 24 rfl) rfl ?_
      refine jm_getI (kz := 49) (dk dt_X12_readPlain 25 rfl) fl_X12_365 rfl rfl m_28 ?_
      refine jz_callV2 (dk dt_X12_readPlain 26 rfl) vl_X12_302 rfl (T_X12_numberFrom (m_28.2.1.1 _ _) (m_28.2.1.1 _ _) m_28 H) m_28.1.1 rfl (by decide) (Nat.zero_le _) (Nat.zero_le _) (Nat.le_of_ble_eq_true rfl) (fun v_46 h_46 P_46 => ?_)
      obtain ⟨x_46, rfl, r_46, rfl, H⟩ := P_46
      dsimp only [rs]
      obtain ⟨p_49, q_49, H⟩ := H
      refine jm_last (dk dt_X12_readPlain 27 rfl) rfl rfl m_28 p_49 q_49 r_46 (fun h_49 m_49 => ?_)
      replace H := H _ rfl
      refine j_goto 99 (dk dt_X12_readPlain 28 rfl) (by decide) ?_
      exact j_el (T_X12_readPlain_99  m_49   H) (And.intro rfl trivial)
    · refine j_aload_n (dk dt_X12_readPlain 29 rfl) rfl ?_
      refine j_iconst (v := Int32.ofInt 2) (dk dt_X12_readPlain 30 rfl) (by decide) ?_
      refine j_iconst (v := Int32.ofInt 0) (dk dt_X12_readPlain 31 rfl) (by decide) ?_
      refine jz_callV2 (dk dt_X12_readPlain 32 rfl) vl_X12_425 rfl (T_X12_part (by decide) (by decide) m H) m.1.1 rfl (by decide) (Nat.zero_le _) (Nat.zero_le _) (Nat.le_of_ble_eq_true rfl) (fun v_56 h_56 P_56 => ?_)
      obtain ⟨x_56, u_56, rfl, r_56, m_56, H⟩ := P_56
      dsimp only [rs]
      refine j_istore_n (dk dt_X12_readPlain 33 rfl) (by decide) ?_
      refine j_aload_n (dk dt_X12_readPlain 34 rfl) rfl ?_
      refine jm_getA (dk dt_X12_readPlain 35 rfl) fl_X12_79 rfl (c := 14) rfl m_56 ?_
      refine j_iload_n (dk dt_X12_readPlain 36 rfl) rfl ?_
      refine j_aload_n (dk dt_X12_readPlain 37 rfl) rfl ?_
      refine j_aload_n (dk dt_X12_readPlain 38 rfl) rfl ?_
      refine jm_getI (kz := 48) (dk dt_X12_readPlain 39 rfl) fl_X12_386 rfl rfl m_56 ?_
      refine j_iconst (v := Int32.ofInt 1) (dk dt_X12_readPlain 40 rfl) (by decide) ?_
      refine jz_iadd (dk dt_X12_readPlain 41 rfl) ?_
      refine j_aload_n (dk dt_X12_readPlain 42 rfl) rfl ?_
      refine jm_getI (kz := 49) (dk dt_X12_readPlain 43 rfl) fl_X12_365 rfl rfl m_56 ?_
      refine j_iconst (v := Int32.ofInt 1) (dk dt_X12_readPlain 44 rfl) (by decide) ?_
      refine jz_isub (dk dt_X12_readPlain 45 rfl) ?_
      refine jz_callV2 (dk dt_X12_readPlain 46 rfl) vl_X12_318 rfl (T_X12_kept (r32_w _) (r32_w _) m_56 H) m_56.1.1 rfl (by decide) (Nat.zero_le _) (Nat.zero_le _) (Nat.le_of_ble_eq_true rfl) (fun v_78 h_78 P_78 => ?_)
      obtain ⟨x_78, u_78, rfl, r_78, m_78, H⟩ := P_78
      dsimp only [rs]
      obtain ⟨p_81, q_81, H⟩ := H
      refine jm_iast (dk dt_X12_readPlain 47 rfl) rfl rfl m_78 p_81 q_81 r_78 (fun h_81 m_81 => ?_)
      replace H := H _ rfl
      refine j_aload_n (dk dt_X12_readPlain 48 rfl) rfl ?_
      refine jm_getA (dk dt_X12_readPlain 49 rfl) fl_X12_82 rfl (c := 14) rfl m_81 ?_
      refine j_iload_n (dk dt_X12_readPlain 50 rfl) rfl ?_
      refine j_aload_n (dk dt_X12_readPlain 51 rfl) rfl ?_
      refine jm_getI (kz := 49) (dk dt_X12_readPlain 52 rfl) fl_X12_365 rfl rfl m_81 ?_
      refine j_aload_n (dk dt_X12_readPlain 53 rfl) rfl ?_
      refine jm_getI (kz := 48) (dk dt_X12_readPlain 54 rfl) fl_X12_386 rfl rfl m_81 ?_
      refine jz_isub (dk dt_X12_readPlain 55 rfl) ?_
      refine j_iconst (v := Int32.ofInt 2) (dk dt_X12_readPlain 56 rfl) (by decide) ?_
      refine jz_isub (dk dt_X12_readPlain 57 rfl) ?_
      obtain ⟨p_98, q_98, H⟩ := H
      refine jm_iast (dk dt_X12_readPlain 58 rfl) rfl rfl m_81 p_98 q_98 (r32_w _) (fun h_98 m_98 => ?_)
      replace H := H _ rfl
      exact j_el (T_X12_readPlain_99  m_98   H) (And.intro rfl trivial)
  · refine j_aload_n (dk dt_X12_readPlain 3 rfl) rfl ?_
    refine j_iconst (v := Int32.ofInt 1) (dk dt_X12_readPlain 4 rfl) (by decide) ?_
    refine j_aload_n (dk dt_X12_readPlain 5 rfl) rfl ?_
    refine jm_getI (kz := 51) (dk dt_X12_readPlain 6 rfl) fl_X12_374 rfl rfl m ?_
    refine jz_callV2 (dk dt_X12_readPlain 7 rfl) vl_X12_296 rfl (T_X12_fail (by decide) (m.2.1.1 _ _) m H) m.1.1 rfl (by decide) (Nat.zero_le _) (Nat.zero_le _) (Nat.le_of_ble_eq_true rfl) (fun v_13 h_13 P_13 => ?_)
    obtain ⟨u_13, rfl, m_13, H⟩ := P_13
    dsimp only [rs]
    exact j_return (dk dt_X12_readPlain 8 rfl) rfl ⟨_, rfl, m_13, H⟩
def F_X12_readShut  (u : Mu) (P : Mu → Prop) : Prop :=
  (if mI u 0 41 ≤ 0 then (if mI u 0 47 = 7 then (∀ u_34, u_34 = uI u 0 57 (w32 ((mI u 0 57) - 1)) → F_X12_next u_34 (fun u_38 => P u_38)) else F_X12_fail 1 (mI u 0 48) u (fun u_23 => P u_23)) else P u)
theorem T_X12_readShut  {u : Mu} {P : Mu → Prop} {h : Hp} {g : Nat → Nat}  (m : Ms h g u)  (H : F_X12_readShut u P) : Con mX12_readShut 9 0 0 [vr (some (g 0))] h (QMV g P) := by
  refine con_of rfl (Nat.le_of_ble_eq_true rfl) (by decide) ?_
  show J mX12_readShut 9 0 0 _ 0 [some (vr (some (g 0)))] [] h
  unfold F_X12_readShut at H
  refine j_aload_n (dk dt_X12_readShut 0 rfl) rfl ?_
  refine jm_getI (kz := 41) (dk dt_X12_readShut 1 rfl) fl_X12_277 rfl rfl m ?_
  refine jz_if_le 8 (dk dt_X12_readShut 2 rfl) (by decide) (m.2.1.1 _ _) H (fun H => ?_) (fun H => ?_)
  · refine j_aload_n (dk dt_X12_readShut 4 rfl) rfl ?_
    refine jm_getI (kz := 47) (dk dt_X12_readShut 5 rfl) fl_X12_362 rfl rfl m ?_
    refine j_bipush (v := Int32.ofInt 7) (dk dt_X12_readShut 6 rfl) (by decide) ?_
    refine jz_icmp_eq 27 (dk dt_X12_readShut 7 rfl) (by decide) (m.2.1.1 _ _) (by decide) H (fun H => ?_) (fun H => ?_)
    · refine j_aload_n (dk dt_X12_readShut 14 rfl) rfl ?_
      refine j_dup (dk dt_X12_readShut 15 rfl) rfl ?_
      refine jm_getI (kz := 57) (dk dt_X12_readShut 16 rfl) fl_X12_410 rfl rfl m ?_
      refine j_iconst (v := Int32.ofInt 1) (dk dt_X12_readShut 17 rfl) (by decide) ?_
      refine jz_isub (dk dt_X12_readShut 18 rfl) ?_
      refine jm_putI (kz := 57) (dk dt_X12_readShut 19 rfl) fl_X12_410 rfl rfl rfl rfl m (r32_w _) (fun h_34 m_34 => ?_)
      replace H := H _ rfl
      refine j_aload_n (dk dt_X12_readShut 20 rfl) rfl ?_
      refine jz_callV0 (dk dt_X12_readShut 21 rfl) vl_X12_413 rfl (T_X12_next m_34 H) m_34.1.1 rfl (by decide) (Nat.zero_le _) (Nat.zero_le _) (Nat.le_of_ble_eq_true rfl) (fun v_38 h_38 P_38 => ?_)
      obtain ⟨u_38, rfl, m_38, H⟩ := P_38
      dsimp only [rs]
      exact j_return (dk dt_X12_readShut 22 rfl) rfl ⟨_, rfl, m_38, H⟩
    · refine j_aload_n (dk dt_X12_readShut 8 rfl) rfl ?_
      refine j_iconst (v := Int32.ofInt 1) (dk dt_X12_readShut 9 rfl) (by decide) ?_
      refine j_aload_n (dk dt_X12_readShut 10 rfl) rfl ?_
      refine jm_getI (kz := 48) (dk dt_X12_readShut 11 rfl) fl_X12_386 rfl rfl m ?_
      refine jz_callV2 (dk dt_X12_readShut 12 rfl) vl_X12_296 rfl (T_X12_fail (by decide) (m.2.1.1 _ _) m H) m.1.1 rfl (by decide) (Nat.zero_le _) (Nat.zero_le _) (Nat.le_of_ble_eq_true rfl) (fun v_23 h_23 P_23 => ?_)
      obtain ⟨u_23, rfl, m_23, H⟩ := P_23
      dsimp only [rs]
      exact j_return (dk dt_X12_readShut 13 rfl) rfl ⟨_, rfl, m_23, H⟩
  · exact j_return (dk dt_X12_readShut 3 rfl) rfl ⟨_, rfl, m, H⟩
