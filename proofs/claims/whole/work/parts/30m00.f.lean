def F_X12_isFormula_15  (s0 : Int) (P : Int → Prop) : Prop :=
  (Z1 s0 ∧ P s0)
theorem T_X12_isFormula_15  {s0 : Int} {P : Int → Prop} {h : Hp} (r_s0 : R32 s0)    (H : F_X12_isFormula_15 s0 P) : J mX12_isFormula 1 0 0 (nx (QPI h P)) 15 [none] [ii (s0)] h := by
  unfold F_X12_isFormula_15 at H
  obtain ⟨hz_, H⟩ := H
  exact j_ireturn (dk dt_X12_isFormula 8 rfl) rfl (nar_z hz_) ⟨_, rfl, r_s0, rfl, H⟩
def F_X12_isFormula_14  (P : Int → Prop) : Prop :=
  F_X12_isFormula_15 0 P
theorem T_X12_isFormula_14  {P : Int → Prop} {h : Hp}     (H : F_X12_isFormula_14 P) : J mX12_isFormula 1 0 0 (nx (QPI h P)) 14 [none] [] h := by
  unfold F_X12_isFormula_14 at H
  refine j_iconst (v := Int32.ofInt 0) (dk dt_X12_isFormula 7 rfl) (by decide) ?_
  exact j_el (T_X12_isFormula_15 (by decide)    H) trivial
def F_X12_isFormula  (x0 : Int) (P : Int → Prop) : Prop :=
  (if x0 ≤ 0 then F_X12_isFormula_14  P else (if 100000 ≤ x0 then F_X12_isFormula_14  P else F_X12_isFormula_15 1 P))
theorem T_X12_isFormula  {x0 : Int} {P : Int → Prop} {h : Hp} (r_x0 : R32 x0)   (H : F_X12_isFormula x0 P) : Con mX12_isFormula 1 0 0 [ii (x0)] h (QPI h P) := by
  refine con_of rfl (Nat.le_of_ble_eq_true rfl) (by decide) ?_
  show J mX12_isFormula 1 0 0 _ 0 [some (ii (x0))] [] h
  unfold F_X12_isFormula at H
  refine j_iload_n (dk dt_X12_isFormula 0 rfl) rfl ?_
  refine jz_if_le 14 (dk dt_X12_isFormula 1 rfl) (by decide) r_x0 H (fun H => ?_) (fun H => ?_)
  · exact j_el (T_X12_isFormula_14     H) trivial
  · refine j_iload_n (dk dt_X12_isFormula 2 rfl) rfl ?_
    refine j_ldc (v := Int32.ofInt (100000)) (dk dt_X12_isFormula 3 rfl) (by exact kl_X12_240) ?_
    refine jz_icmp_ge 14 (dk dt_X12_isFormula 4 rfl) (by decide) r_x0 (by decide) H (fun H => ?_) (fun H => ?_)
    · exact j_el (T_X12_isFormula_14     H) trivial
    · refine j_iconst (v := Int32.ofInt 1) (dk dt_X12_isFormula 5 rfl) (by decide) ?_
      refine j_goto 15 (dk dt_X12_isFormula 6 rfl) (by decide) ?_
      exact j_el (T_X12_isFormula_15 (by decide)    H) trivial
def L_X12_sameLetters_3  (x1 : Int) (x2 : Int) (x3 : Int) (x4 : Int) (u : Mu) (P : Int ⊕ ((Unit) ⊕ (Unit)) → Prop) : Prop :=
  (if x3 ≤ x4 then P (.inr (.inl ())) else (0 ≤ w32 (x1 + x4) ∧ w32 (x1 + x4) < 82400 ∧ (0 ≤ w32 (x2 + x4) ∧ w32 (x2 + x4) < 82400 ∧ (if mI u 18 (w32 (x1 + x4)) = mI u 18 (w32 (x2 + x4)) then P (.inl (w32 (x4 + 1))) else P (.inr (.inr ()))))))
theorem U_X12_sameLetters_3  {x1 : Int} {x2 : Int} {x3 : Int} {x4 : Int} {u : Mu} {P : Int ⊕ ((Unit) ⊕ (Unit)) → Prop} {h : Hp} {g : Nat → Nat} {post : Option Sv ⊕ String → Hp → Prop} (r_x1 : R32 x1) (r_x2 : R32 x2) (r_x3 : R32 x3) (r_x4 : R32 x4) (m : Ms h g u)  (hl : ∀ (x4 : Int), P (.inl x4) → R32 x4 → J mX12_sameLetters 1 0 0 post 3 [some (vr (some (g 0))), some (ii (x1)), some (ii (x2)), some (ii (x3)), some (ii (x4))] [] h) (he0 : P (.inr (.inl ())) → J mX12_sameLetters 1 0 0 post 38 [none, none, none, none, none] [] h) (he1 : P (.inr (.inr ())) → J mX12_sameLetters 1 0 0 post 30 [none, none, none, none, none] [] h) (H : L_X12_sameLetters_3 x1 x2 x3 x4 u P) : J mX12_sameLetters 1 0 0 post 3 [some (vr (some (g 0))), some (ii (x1)), some (ii (x2)), some (ii (x3)), some (ii (x4))] [] h := by
  unfold L_X12_sameLetters_3 at H
  refine j_iload (dk dt_X12_sameLetters 2 rfl) rfl ?_
  refine j_iload_n (dk dt_X12_sameLetters 3 rfl) rfl ?_
  refine jz_icmp_ge 38 (dk dt_X12_sameLetters 4 rfl) (by decide) r_x4 r_x3 H (fun H => ?_) (fun H => ?_)
  · exact j_el (he0  H ) trivial
  · refine j_aload_n (dk dt_X12_sameLetters 5 rfl) rfl ?_
    refine jm_getA (dk dt_X12_sameLetters 6 rfl) fl_X12_49 rfl (c := 13) rfl m ?_
    refine j_iload_n (dk dt_X12_sameLetters 7 rfl) rfl ?_
    refine j_iload (dk dt_X12_sameLetters 8 rfl) rfl ?_
    refine jz_iadd (dk dt_X12_sameLetters 9 rfl) ?_
    obtain ⟨p_17, q_17, H⟩ := H
    refine jm_bald (dk dt_X12_sameLetters 10 rfl) rfl rfl m p_17 q_17 ?_
    refine j_aload_n (dk dt_X12_sameLetters 11 rfl) rfl ?_
    refine jm_getA (dk dt_X12_sameLetters 12 rfl) fl_X12_49 rfl (c := 13) rfl m ?_
    refine j_iload_n (dk dt_X12_sameLetters 13 rfl) rfl ?_
    refine j_iload (dk dt_X12_sameLetters 14 rfl) rfl ?_
    refine jz_iadd (dk dt_X12_sameLetters 15 rfl) ?_
    obtain ⟨p_26, q_26, H⟩ := H
    refine jm_bald (dk dt_X12_sameLetters 16 rfl) rfl rfl m p_26 q_26 ?_
    refine jz_icmp_eq 32 (dk dt_X12_sameLetters 17 rfl) (by decide) (m.2.1.1 _ _) (m.2.1.1 _ _) H (fun H => ?_) (fun H => ?_)
    · refine jz_iinc (dk dt_X12_sameLetters 20 rfl) rfl ?_
      refine j_goto 3 (dk dt_X12_sameLetters 21 rfl) (by decide) ?_
      exact j_el (hl _ H (r32_w _)) (And.intro rfl (And.intro rfl (And.intro rfl (And.intro rfl (And.intro rfl trivial)))))
    · exact j_el (he1  H ) trivial
def F_X12_sameLetters_3  (x1 : Int) (x2 : Int) (x3 : Int) (x4 : Int) (u : Mu) (P : Int → Prop) : Prop :=
  lp (S := Int) (E := (Unit) ⊕ (Unit)) (fun q P_ => L_X12_sameLetters_3 x1 x2 x3 q u P_) x4 (fun e => match e with | (.inl _) => P 1 | (.inr _) => P 0)
theorem T_X12_sameLetters_3  {x1 : Int} {x2 : Int} {x3 : Int} {x4 : Int} {u : Mu} {P : Int → Prop} {h : Hp} {g : Nat → Nat} (r_x1 : R32 x1) (r_x2 : R32 x2) (r_x3 : R32 x3) (r_x4 : R32 x4) (m : Ms h g u)   (H : F_X12_sameLetters_3 x1 x2 x3 x4 u P) : J mX12_sameLetters 1 0 0 (nx (QPI h P)) 3 [some (vr (some (g 0))), some (ii (x1)), some (ii (x2)), some (ii (x3)), some (ii (x4))] [] h := by
  unfold F_X12_sameLetters_3 at H
  refine lp_J (G := fun q => R32 (q) → J mX12_sameLetters 1 0 0 (nx (QPI h P)) 3 [some (vr (some (g 0))), some (ii (x1)), some (ii (x2)), some (ii (x3)), some (ii ((q)))] [] h) (fun x4 P_ hl_ he_ Hb => ?_) x4 H r_x4
  intro r_x4
  refine U_X12_sameLetters_3 (P := P_) r_x1 r_x2 r_x3 r_x4 m  (fun x4 Hp r_x4 => hl_ x4 Hp r_x4) ?_ ?_ Hb
  · intro Hp
    have H := he_ _ Hp
    refine j_iconst (v := Int32.ofInt 1) (dk dt_X12_sameLetters 22 rfl) (by decide) ?_
    exact j_ireturn (dk dt_X12_sameLetters 23 rfl) rfl (nar_z (by decide)) ⟨_, rfl, (by decide), rfl, H⟩
  · intro Hp
    have H := he_ _ Hp
    refine j_iconst (v := Int32.ofInt 0) (dk dt_X12_sameLetters 18 rfl) (by decide) ?_
    exact j_ireturn (dk dt_X12_sameLetters 19 rfl) rfl (nar_z (by decide)) ⟨_, rfl, (by decide), rfl, H⟩
def F_X12_sameLetters  (x1 : Int) (x2 : Int) (x3 : Int) (u : Mu) (P : Int → Prop) : Prop :=
  F_X12_sameLetters_3 x1 x2 x3 0 u P
theorem T_X12_sameLetters  {x1 : Int} {x2 : Int} {x3 : Int} {u : Mu} {P : Int → Prop} {h : Hp} {g : Nat → Nat} (r_x1 : R32 x1) (r_x2 : R32 x2) (r_x3 : R32 x3) (m : Ms h g u)  (H : F_X12_sameLetters x1 x2 x3 u P) : Con mX12_sameLetters 1 0 0 [vr (some (g 0)), ii (x1), ii (x2), ii (x3)] h (QPI h P) := by
  refine con_of rfl (Nat.le_of_ble_eq_true rfl) (by decide) ?_
  show J mX12_sameLetters 1 0 0 _ 0 [some (vr (some (g 0))), some (ii (x1)), some (ii (x2)), some (ii (x3)), none] [] h
  unfold F_X12_sameLetters at H
  refine j_iconst (v := Int32.ofInt 0) (dk dt_X12_sameLetters 0 rfl) (by decide) ?_
  refine j_istore (dk dt_X12_sameLetters 1 rfl) (by decide) ?_
  exact j_el (T_X12_sameLetters_3 r_x1 r_x2 r_x3 (by decide) m   H) (And.intro rfl (And.intro rfl (And.intro rfl (And.intro rfl (And.intro rfl trivial)))))
def F_X12_sameParts_211  (s0 : Int) (u : Mu) (P : Int → Prop) : Prop :=
  (Z1 s0 ∧ P s0)
theorem T_X12_sameParts_211  {s0 : Int} {u : Mu} {P : Int → Prop} {h : Hp} {g : Nat → Nat} (r_s0 : R32 s0) (m : Ms h g u)   (H : F_X12_sameParts_211 s0 u P) : J mX12_sameParts 2 0 0 (nx (QPI h P)) 211 [none, none, none, none] [ii (s0)] h := by
  unfold F_X12_sameParts_211 at H
  obtain ⟨hz_, H⟩ := H
  exact j_ireturn (dk dt_X12_sameParts 127 rfl) rfl (nar_z hz_) ⟨_, rfl, r_s0, rfl, H⟩
def F_X12_sameParts_210  (u : Mu) (P : Int → Prop) : Prop :=
  F_X12_sameParts_211 0 u P
theorem T_X12_sameParts_210  {u : Mu} {P : Int → Prop} {h : Hp} {g : Nat → Nat}  (m : Ms h g u)   (H : F_X12_sameParts_210 u P) : J mX12_sameParts 2 0 0 (nx (QPI h P)) 210 [none, none, none, none] [] h := by
  unfold F_X12_sameParts_210 at H
  refine j_iconst (v := Int32.ofInt 0) (dk dt_X12_sameParts 126 rfl) (by decide) ?_
  exact j_el (T_X12_sameParts_211 (by decide) m   H) trivial
def F_X12_sameParts_176  (x1 : Int) (x2 : Int) (s0 : Int) (u : Mu) (P : Int → Prop) : Prop :=
  (if s0 = 0 then F_X12_sameParts_210 u P else (0 ≤ x1 ∧ x1 < 60420 ∧ (0 ≤ x2 ∧ x2 < 60420 ∧ (0 ≤ x1 ∧ x1 < 60420 ∧ F_X12_sameLetters (mI u 30 x1) (mI u 30 x2) (mI u 31 x1) u (fun x_200 => (if x_200 = 0 then F_X12_sameParts_210 u P else F_X12_sameParts_211 1 u P))))))
theorem T_X12_sameParts_176  {x1 : Int} {x2 : Int} {s0 : Int} {u : Mu} {P : Int → Prop} {h : Hp} {g : Nat → Nat} (r_x1 : R32 x1) (r_x2 : R32 x2) (r_s0 : R32 s0) (m : Ms h g u)   (H : F_X12_sameParts_176 x1 x2 s0 u P) : J mX12_sameParts 2 0 0 (nx (QPI h P)) 176 [some (vr (some (g 0))), some (ii (x1)), some (ii (x2)), none] [ii (s0)] h := by
  unfold F_X12_sameParts_176 at H
  refine j_istore_n (dk dt_X12_sameParts 106 rfl) (by decide) ?_
  refine j_iload_n (dk dt_X12_sameParts 107 rfl) rfl ?_
  refine jz_if_eq 210 (dk dt_X12_sameParts 108 rfl) (by decide) r_s0 H (fun H => ?_) (fun H => ?_)
  · exact j_el (T_X12_sameParts_210  m   H) trivial
  · refine j_aload_n (dk dt_X12_sameParts 109 rfl) rfl ?_
    refine j_aload_n (dk dt_X12_sameParts 110 rfl) rfl ?_
    refine jm_getA (dk dt_X12_sameParts 111 rfl) fl_X12_79 rfl (c := 14) rfl m ?_
    refine j_iload_n (dk dt_X12_sameParts 112 rfl) rfl ?_
    obtain ⟨p_187, q_187, H⟩ := H
    refine jm_iald (dk dt_X12_sameParts 113 rfl) rfl rfl m p_187 q_187 ?_
    refine j_aload_n (dk dt_X12_sameParts 114 rfl) rfl ?_
    refine jm_getA (dk dt_X12_sameParts 115 rfl) fl_X12_79 rfl (c := 14) rfl m ?_
    refine j_iload_n (dk dt_X12_sameParts 116 rfl) rfl ?_
    obtain ⟨p_193, q_193, H⟩ := H
    refine jm_iald (dk dt_X12_sameParts 117 rfl) rfl rfl m p_193 q_193 ?_
    refine j_aload_n (dk dt_X12_sameParts 118 rfl) rfl ?_
    refine jm_getA (dk dt_X12_sameParts 119 rfl) fl_X12_82 rfl (c := 14) rfl m ?_
    refine j_iload_n (dk dt_X12_sameParts 120 rfl) rfl ?_
    obtain ⟨p_199, q_199, H⟩ := H
    refine jm_iald (dk dt_X12_sameParts 121 rfl) rfl rfl m p_199 q_199 ?_
    refine jz_callV3 (dk dt_X12_sameParts 122 rfl) vl_X12_241 rfl (T_X12_sameLetters (m.2.1.1 _ _) (m.2.1.1 _ _) (m.2.1.1 _ _) m H) m.1.1 rfl (by decide) (Nat.zero_le _) (Nat.zero_le _) (Nat.le_of_ble_eq_true rfl) (fun v_200 h_200 P_200 => ?_)
    obtain ⟨x_200, rfl, r_200, rfl, H⟩ := P_200
    dsimp only [rs]
    refine jz_if_eq 210 (dk dt_X12_sameParts 123 rfl) (by decide) r_200 H (fun H => ?_) (fun H => ?_)
    · exact j_el (T_X12_sameParts_210  m   H) trivial
    · refine j_iconst (v := Int32.ofInt 1) (dk dt_X12_sameParts 124 rfl) (by decide) ?_
      refine j_goto 211 (dk dt_X12_sameParts 125 rfl) (by decide) ?_
      exact j_el (T_X12_sameParts_211 (by decide) m   H) trivial
def F_X12_sameParts_175  (x1 : Int) (x2 : Int) (u : Mu) (P : Int → Prop) : Prop :=
  F_X12_sameParts_176 x1 x2 0 u P
theorem T_X12_sameParts_175  {x1 : Int} {x2 : Int} {u : Mu} {P : Int → Prop} {h : Hp} {g : Nat → Nat} (r_x1 : R32 x1) (r_x2 : R32 x2) (m : Ms h g u)   (H : F_X12_sameParts_175 x1 x2 u P) : J mX12_sameParts 2 0 0 (nx (QPI h P)) 175 [some (vr (some (g 0))), some (ii (x1)), some (ii (x2)), none] [] h := by
  unfold F_X12_sameParts_175 at H
  refine j_iconst (v := Int32.ofInt 0) (dk dt_X12_sameParts 105 rfl) (by decide) ?_
  exact j_el (T_X12_sameParts_176 r_x1 r_x2 (by decide) m   H) (And.intro rfl (And.intro rfl (And.intro rfl trivial)))
def F_X12_sameParts_136  (x1 : Int) (x2 : Int) (s0 : Int) (u : Mu) (P : Int → Prop) : Prop :=
  (if s0 = 0 then F_X12_sameParts_175 x1 x2 u P else (0 ≤ x1 ∧ x1 < 60420 ∧ (0 ≤ x2 ∧ x2 < 60420 ∧ (if mI u 36 x1 = mI u 36 x2 then (0 ≤ x1 ∧ x1 < 60420 ∧ (0 ≤ x2 ∧ x2 < 60420 ∧ (if mI u 37 x1 = mI u 37 x2 then F_X12_sameParts_176 x1 x2 1 u P else F_X12_sameParts_175 x1 x2 u P))) else F_X12_sameParts_175 x1 x2 u P))))
theorem T_X12_sameParts_136  {x1 : Int} {x2 : Int} {s0 : Int} {u : Mu} {P : Int → Prop} {h : Hp} {g : Nat → Nat} (r_x1 : R32 x1) (r_x2 : R32 x2) (r_s0 : R32 s0) (m : Ms h g u)   (H : F_X12_sameParts_136 x1 x2 s0 u P) : J mX12_sameParts 2 0 0 (nx (QPI h P)) 136 [some (vr (some (g 0))), some (ii (x1)), some (ii (x2)), none] [ii (s0)] h := by
  unfold F_X12_sameParts_136 at H
  refine j_istore_n (dk dt_X12_sameParts 82 rfl) (by decide) ?_
  refine j_iload_n (dk dt_X12_sameParts 83 rfl) rfl ?_
  refine jz_if_eq 175 (dk dt_X12_sameParts 84 rfl) (by decide) r_s0 H (fun H => ?_) (fun H => ?_)
  · exact j_el (T_X12_sameParts_175 r_x1 r_x2 m   H) (And.intro rfl (And.intro rfl (And.intro rfl trivial)))
  · refine j_aload_n (dk dt_X12_sameParts 85 rfl) rfl ?_
    refine jm_getA (dk dt_X12_sameParts 86 rfl) fl_X12_97 rfl (c := 14) rfl m ?_
    refine j_iload_n (dk dt_X12_sameParts 87 rfl) rfl ?_
    obtain ⟨p_146, q_146, H⟩ := H
    refine jm_iald (dk dt_X12_sameParts 88 rfl) rfl rfl m p_146 q_146 ?_
    refine j_aload_n (dk dt_X12_sameParts 89 rfl) rfl ?_
    refine jm_getA (dk dt_X12_sameParts 90 rfl) fl_X12_97 rfl (c := 14) rfl m ?_
    refine j_iload_n (dk dt_X12_sameParts 91 rfl) rfl ?_
    obtain ⟨p_152, q_152, H⟩ := H
    refine jm_iald (dk dt_X12_sameParts 92 rfl) rfl rfl m p_152 q_152 ?_
    refine jz_icmp_ne 175 (dk dt_X12_sameParts 93 rfl) (by decide) (m.2.1.1 _ _) (m.2.1.1 _ _) H (fun H => ?_) (fun H => ?_)
    · refine j_aload_n (dk dt_X12_sameParts 94 rfl) rfl ?_
      refine jm_getA (dk dt_X12_sameParts 95 rfl) fl_X12_100 rfl (c := 14) rfl m ?_
      refine j_iload_n (dk dt_X12_sameParts 96 rfl) rfl ?_
      obtain ⟨p_161, q_161, H⟩ := H
      refine jm_iald (dk dt_X12_sameParts 97 rfl) rfl rfl m p_161 q_161 ?_
      refine j_aload_n (dk dt_X12_sameParts 98 rfl) rfl ?_
      refine jm_getA (dk dt_X12_sameParts 99 rfl) fl_X12_100 rfl (c := 14) rfl m ?_
      refine j_iload_n (dk dt_X12_sameParts 100 rfl) rfl ?_
      obtain ⟨p_167, q_167, H⟩ := H
      refine jm_iald (dk dt_X12_sameParts 101 rfl) rfl rfl m p_167 q_167 ?_
      refine jz_icmp_ne 175 (dk dt_X12_sameParts 102 rfl) (by decide) (m.2.1.1 _ _) (m.2.1.1 _ _) H (fun H => ?_) (fun H => ?_)
      · refine j_iconst (v := Int32.ofInt 1) (dk dt_X12_sameParts 103 rfl) (by decide) ?_
        refine j_goto 176 (dk dt_X12_sameParts 104 rfl) (by decide) ?_
        exact j_el (T_X12_sameParts_176 r_x1 r_x2 (by decide) m   H) (And.intro rfl (And.intro rfl (And.intro rfl trivial)))
      · exact j_el (T_X12_sameParts_175 r_x1 r_x2 m   H) (And.intro rfl (And.intro rfl (And.intro rfl trivial)))
    · exact j_el (T_X12_sameParts_175 r_x1 r_x2 m   H) (And.intro rfl (And.intro rfl (And.intro rfl trivial)))
def F_X12_sameParts_135  (x1 : Int) (x2 : Int) (u : Mu) (P : Int → Prop) : Prop :=
  F_X12_sameParts_136 x1 x2 0 u P
theorem T_X12_sameParts_135  {x1 : Int} {x2 : Int} {u : Mu} {P : Int → Prop} {h : Hp} {g : Nat → Nat} (r_x1 : R32 x1) (r_x2 : R32 x2) (m : Ms h g u)   (H : F_X12_sameParts_135 x1 x2 u P) : J mX12_sameParts 2 0 0 (nx (QPI h P)) 135 [some (vr (some (g 0))), some (ii (x1)), some (ii (x2)), none] [] h := by
  unfold F_X12_sameParts_135 at H
  refine j_iconst (v := Int32.ofInt 0) (dk dt_X12_sameParts 81 rfl) (by decide) ?_
  exact j_el (T_X12_sameParts_136 r_x1 r_x2 (by decide) m   H) (And.intro rfl (And.intro rfl (And.intro rfl trivial)))
def F_X12_sameParts_66  (x1 : Int) (x2 : Int) (s0 : Int) (u : Mu) (P : Int → Prop) : Prop :=
  (if s0 = 0 then F_X12_sameParts_135 x1 x2 u P else (0 ≤ x1 ∧ x1 < 60420 ∧ (0 ≤ x2 ∧ x2 < 60420 ∧ (if mI u 32 x1 = mI u 32 x2 then (0 ≤ x1 ∧ x1 < 60420 ∧ (0 ≤ x2 ∧ x2 < 60420 ∧ (if mI u 33 x1 = mI u 33 x2 then (0 ≤ x1 ∧ x1 < 60420 ∧ (0 ≤ x2 ∧ x2 < 60420 ∧ (if mI u 34 x1 = mI u 34 x2 then (0 ≤ x1 ∧ x1 < 60420 ∧ (0 ≤ x2 ∧ x2 < 60420 ∧ (if mI u 35 x1 = mI u 35 x2 then F_X12_sameParts_136 x1 x2 1 u P else F_X12_sameParts_135 x1 x2 u P))) else F_X12_sameParts_135 x1 x2 u P))) else F_X12_sameParts_135 x1 x2 u P))) else F_X12_sameParts_135 x1 x2 u P))))
theorem T_X12_sameParts_66  {x1 : Int} {x2 : Int} {s0 : Int} {u : Mu} {P : Int → Prop} {h : Hp} {g : Nat → Nat} (r_x1 : R32 x1) (r_x2 : R32 x2) (r_s0 : R32 s0) (m : Ms h g u)   (H : F_X12_sameParts_66 x1 x2 s0 u P) : J mX12_sameParts 2 0 0 (nx (QPI h P)) 66 [some (vr (some (g 0))), some (ii (x1)), some (ii (x2)), none] [ii (s0)] h := by
  unfold F_X12_sameParts_66 at H
  refine j_istore_n (dk dt_X12_sameParts 40 rfl) (by decide) ?_
  refine j_iload_n (dk dt_X12_sameParts 41 rfl) rfl ?_
  refine jz_if_eq 135 (dk dt_X12_sameParts 42 rfl) (by decide) r_s0 H (fun H => ?_) (fun H => ?_)
  · exact j_el (T_X12_sameParts_135 r_x1 r_x2 m   H) (And.intro rfl (And.intro rfl (And.intro rfl trivial)))
  · refine j_aload_n (dk dt_X12_sameParts 43 rfl) rfl ?_
    refine jm_getA (dk dt_X12_sameParts 44 rfl) fl_X12_85 rfl (c := 14) rfl m ?_
    refine j_iload_n (dk dt_X12_sameParts 45 rfl) rfl ?_
    obtain ⟨p_76, q_76, H⟩ := H
    refine jm_iald (dk dt_X12_sameParts 46 rfl) rfl rfl m p_76 q_76 ?_
    refine j_aload_n (dk dt_X12_sameParts 47 rfl) rfl ?_
    refine jm_getA (dk dt_X12_sameParts 48 rfl) fl_X12_85 rfl (c := 14) rfl m ?_
    refine j_iload_n (dk dt_X12_sameParts 49 rfl) rfl ?_
    obtain ⟨p_82, q_82, H⟩ := H
    refine jm_iald (dk dt_X12_sameParts 50 rfl) rfl rfl m p_82 q_82 ?_
    refine jz_icmp_ne 135 (dk dt_X12_sameParts 51 rfl) (by decide) (m.2.1.1 _ _) (m.2.1.1 _ _) H (fun H => ?_) (fun H => ?_)
    · refine j_aload_n (dk dt_X12_sameParts 52 rfl) rfl ?_
      refine jm_getA (dk dt_X12_sameParts 53 rfl) fl_X12_88 rfl (c := 14) rfl m ?_
      refine j_iload_n (dk dt_X12_sameParts 54 rfl) rfl ?_
      obtain ⟨p_91, q_91, H⟩ := H
      refine jm_iald (dk dt_X12_sameParts 55 rfl) rfl rfl m p_91 q_91 ?_
      refine j_aload_n (dk dt_X12_sameParts 56 rfl) rfl ?_
      refine jm_getA (dk dt_X12_sameParts 57 rfl) fl_X12_88 rfl (c := 14) rfl m ?_
      refine j_iload_n (dk dt_X12_sameParts 58 rfl) rfl ?_
      obtain ⟨p_97, q_97, H⟩ := H
      refine jm_iald (dk dt_X12_sameParts 59 rfl) rfl rfl m p_97 q_97 ?_
      refine jz_icmp_ne 135 (dk dt_X12_sameParts 60 rfl) (by decide) (m.2.1.1 _ _) (m.2.1.1 _ _) H (fun H => ?_) (fun H => ?_)
      · refine j_aload_n (dk dt_X12_sameParts 61 rfl) rfl ?_
        refine jm_getA (dk dt_X12_sameParts 62 rfl) fl_X12_91 rfl (c := 14) rfl m ?_
        refine j_iload_n (dk dt_X12_sameParts 63 rfl) rfl ?_
        obtain ⟨p_106, q_106, H⟩ := H
        refine jm_iald (dk dt_X12_sameParts 64 rfl) rfl rfl m p_106 q_106 ?_
        refine j_aload_n (dk dt_X12_sameParts 65 rfl) rfl ?_
        refine jm_getA (dk dt_X12_sameParts 66 rfl) fl_X12_91 rfl (c := 14) rfl m ?_
        refine j_iload_n (dk dt_X12_sameParts 67 rfl) rfl ?_
        obtain ⟨p_112, q_112, H⟩ := H
        refine jm_iald (dk dt_X12_sameParts 68 rfl) rfl rfl m p_112 q_112 ?_
        refine jz_icmp_ne 135 (dk dt_X12_sameParts 69 rfl) (by decide) (m.2.1.1 _ _) (m.2.1.1 _ _) H (fun H => ?_) (fun H => ?_)
        · refine j_aload_n (dk dt_X12_sameParts 70 rfl) rfl ?_
          refine jm_getA (dk dt_X12_sameParts 71 rfl) fl_X12_94 rfl (c := 14) rfl m ?_
          refine j_iload_n (dk dt_X12_sameParts 72 rfl) rfl ?_
          obtain ⟨p_121, q_121, H⟩ := H
          refine jm_iald (dk dt_X12_sameParts 73 rfl) rfl rfl m p_121 q_121 ?_
          refine j_aload_n (dk dt_X12_sameParts 74 rfl) rfl ?_
          refine jm_getA (dk dt_X12_sameParts 75 rfl) fl_X12_94 rfl (c := 14) rfl m ?_
          refine j_iload_n (dk dt_X12_sameParts 76 rfl) rfl ?_
          obtain ⟨p_127, q_127, H⟩ := H
          refine jm_iald (dk dt_X12_sameParts 77 rfl) rfl rfl m p_127 q_127 ?_
          refine jz_icmp_ne 135 (dk dt_X12_sameParts 78 rfl) (by decide) (m.2.1.1 _ _) (m.2.1.1 _ _) H (fun H => ?_) (fun H => ?_)
          · refine j_iconst (v := Int32.ofInt 1) (dk dt_X12_sameParts 79 rfl) (by decide) ?_
            refine j_goto 136 (dk dt_X12_sameParts 80 rfl) (by decide) ?_
            exact j_el (T_X12_sameParts_136 r_x1 r_x2 (by decide) m   H) (And.intro rfl (And.intro rfl (And.intro rfl trivial)))
          · exact j_el (T_X12_sameParts_135 r_x1 r_x2 m   H) (And.intro rfl (And.intro rfl (And.intro rfl trivial)))
        · exact j_el (T_X12_sameParts_135 r_x1 r_x2 m   H) (And.intro rfl (And.intro rfl (And.intro rfl trivial)))
      · exact j_el (T_X12_sameParts_135 r_x1 r_x2 m   H) (And.intro rfl (And.intro rfl (And.intro rfl trivial)))
    · exact j_el (T_X12_sameParts_135 r_x1 r_x2 m   H) (And.intro rfl (And.intro rfl (And.intro rfl trivial)))
def F_X12_sameParts_65  (x1 : Int) (x2 : Int) (u : Mu) (P : Int → Prop) : Prop :=
  F_X12_sameParts_66 x1 x2 0 u P
theorem T_X12_sameParts_65  {x1 : Int} {x2 : Int} {u : Mu} {P : Int → Prop} {h : Hp} {g : Nat → Nat} (r_x1 : R32 x1) (r_x2 : R32 x2) (m : Ms h g u)   (H : F_X12_sameParts_65 x1 x2 u P) : J mX12_sameParts 2 0 0 (nx (QPI h P)) 65 [some (vr (some (g 0))), some (ii (x1)), some (ii (x2)), none] [] h := by
  unfold F_X12_sameParts_65 at H
  refine j_iconst (v := Int32.ofInt 0) (dk dt_X12_sameParts 39 rfl) (by decide) ?_
  exact j_el (T_X12_sameParts_66 r_x1 r_x2 (by decide) m   H) (And.intro rfl (And.intro rfl (And.intro rfl trivial)))
def F_X12_sameParts  (x1 : Int) (x2 : Int) (u : Mu) (P : Int → Prop) : Prop :=
  (0 ≤ x1 ∧ x1 < 60420 ∧ (0 ≤ x2 ∧ x2 < 60420 ∧ (if mI u 26 x1 = mI u 26 x2 then (0 ≤ x1 ∧ x1 < 60420 ∧ (0 ≤ x2 ∧ x2 < 60420 ∧ (if mI u 27 x1 = mI u 27 x2 then (0 ≤ x1 ∧ x1 < 60420 ∧ (0 ≤ x2 ∧ x2 < 60420 ∧ (if mG u 29 x1 = mG u 29 x2 then (0 ≤ x1 ∧ x1 < 60420 ∧ (0 ≤ x2 ∧ x2 < 60420 ∧ (if mI u 31 x1 = mI u 31 x2 then F_X12_sameParts_66 x1 x2 1 u P else F_X12_sameParts_65 x1 x2 u P))) else F_X12_sameParts_65 x1 x2 u P))) else F_X12_sameParts_65 x1 x2 u P))) else F_X12_sameParts_65 x1 x2 u P)))
theorem T_X12_sameParts  {x1 : Int} {x2 : Int} {u : Mu} {P : Int → Prop} {h : Hp} {g : Nat → Nat} (r_x1 : R32 x1) (r_x2 : R32 x2) (m : Ms h g u)  (H : F_X12_sameParts x1 x2 u P) : Con mX12_sameParts 2 0 0 [vr (some (g 0)), ii (x1), ii (x2)] h (QPI h P) := by
  refine con_of rfl (Nat.le_of_ble_eq_true rfl) (by decide) ?_
  show J mX12_sameParts 2 0 0 _ 0 [some (vr (some (g 0))), some (ii (x1)), some (ii (x2)), none] [] h
  unfold F_X12_sameParts at H
  refine j_aload_n (dk dt_X12_sameParts 0 rfl) rfl ?_
  refine jm_getA (dk dt_X12_sameParts 1 rfl) fl_X12_67 rfl (c := 14) rfl m ?_
  refine j_iload_n (dk dt_X12_sameParts 2 rfl) rfl ?_
  obtain ⟨p_5, q_5, H⟩ := H
  refine jm_iald (dk dt_X12_sameParts 3 rfl) rfl rfl m p_5 q_5 ?_
  refine j_aload_n (dk dt_X12_sameParts 4 rfl) rfl ?_
  refine jm_getA (dk dt_X12_sameParts 5 rfl) fl_X12_67 rfl (c := 14) rfl m ?_
  refine j_iload_n (dk dt_X12_sameParts 6 rfl) rfl ?_
  obtain ⟨p_11, q_11, H⟩ := H
  refine jm_iald (dk dt_X12_sameParts 7 rfl) rfl rfl m p_11 q_11 ?_
  refine jz_icmp_ne 65 (dk dt_X12_sameParts 8 rfl) (by decide) (m.2.1.1 _ _) (m.2.1.1 _ _) H (fun H => ?_) (fun H => ?_)
  · refine j_aload_n (dk dt_X12_sameParts 9 rfl) rfl ?_
    refine jm_getA (dk dt_X12_sameParts 10 rfl) fl_X12_70 rfl (c := 14) rfl m ?_
    refine j_iload_n (dk dt_X12_sameParts 11 rfl) rfl ?_
    obtain ⟨p_20, q_20, H⟩ := H
    refine jm_iald (dk dt_X12_sameParts 12 rfl) rfl rfl m p_20 q_20 ?_
    refine j_aload_n (dk dt_X12_sameParts 13 rfl) rfl ?_
    refine jm_getA (dk dt_X12_sameParts 14 rfl) fl_X12_70 rfl (c := 14) rfl m ?_
    refine j_iload_n (dk dt_X12_sameParts 15 rfl) rfl ?_
    obtain ⟨p_26, q_26, H⟩ := H
    refine jm_iald (dk dt_X12_sameParts 16 rfl) rfl rfl m p_26 q_26 ?_
    refine jz_icmp_ne 65 (dk dt_X12_sameParts 17 rfl) (by decide) (m.2.1.1 _ _) (m.2.1.1 _ _) H (fun H => ?_) (fun H => ?_)
    · refine j_aload_n (dk dt_X12_sameParts 18 rfl) rfl ?_
      refine jm_getA (dk dt_X12_sameParts 19 rfl) fl_X12_76 rfl (c := 15) rfl m ?_
      refine j_iload_n (dk dt_X12_sameParts 20 rfl) rfl ?_
      obtain ⟨p_35, q_35, H⟩ := H
      refine jm_lald (dk dt_X12_sameParts 21 rfl) rfl rfl m p_35 q_35 ?_
      refine j_aload_n (dk dt_X12_sameParts 22 rfl) rfl ?_
      refine jm_getA (dk dt_X12_sameParts 23 rfl) fl_X12_76 rfl (c := 15) rfl m ?_
      refine j_iload_n (dk dt_X12_sameParts 24 rfl) rfl ?_
      obtain ⟨p_41, q_41, H⟩ := H
      refine jm_lald (dk dt_X12_sameParts 25 rfl) rfl rfl m p_41 q_41 ?_
      refine jz_lcmp (dk dt_X12_sameParts 26 rfl) (m.2.1.2.1 _ _) (m.2.1.2.1 _ _) ?_
      refine jz_lif_ne 65 (dk dt_X12_sameParts 27 rfl) (by decide) H (fun H => ?_) (fun H => ?_)
      · refine j_aload_n (dk dt_X12_sameParts 28 rfl) rfl ?_
        refine jm_getA (dk dt_X12_sameParts 29 rfl) fl_X12_82 rfl (c := 14) rfl m ?_
        refine j_iload_n (dk dt_X12_sameParts 30 rfl) rfl ?_
        obtain ⟨p_51, q_51, H⟩ := H
        refine jm_iald (dk dt_X12_sameParts 31 rfl) rfl rfl m p_51 q_51 ?_
        refine j_aload_n (dk dt_X12_sameParts 32 rfl) rfl ?_
        refine jm_getA (dk dt_X12_sameParts 33 rfl) fl_X12_82 rfl (c := 14) rfl m ?_
        refine j_iload_n (dk dt_X12_sameParts 34 rfl) rfl ?_
        obtain ⟨p_57, q_57, H⟩ := H
        refine jm_iald (dk dt_X12_sameParts 35 rfl) rfl rfl m p_57 q_57 ?_
        refine jz_icmp_ne 65 (dk dt_X12_sameParts 36 rfl) (by decide) (m.2.1.1 _ _) (m.2.1.1 _ _) H (fun H => ?_) (fun H => ?_)
        · refine j_iconst (v := Int32.ofInt 1) (dk dt_X12_sameParts 37 rfl) (by decide) ?_
          refine j_goto 66 (dk dt_X12_sameParts 38 rfl) (by decide) ?_
          exact j_el (T_X12_sameParts_66 r_x1 r_x2 (by decide) m   H) (And.intro rfl (And.intro rfl (And.intro rfl trivial)))
        · exact j_el (T_X12_sameParts_65 r_x1 r_x2 m   H) (And.intro rfl (And.intro rfl (And.intro rfl trivial)))
      · exact j_el (T_X12_sameParts_65 r_x1 r_x2 m   H) (And.intro rfl (And.intro rfl (And.intro rfl trivial)))
    · exact j_el (T_X12_sameParts_65 r_x1 r_x2 m   H) (And.intro rfl (And.intro rfl (And.intro rfl trivial)))
  · exact j_el (T_X12_sameParts_65 r_x1 r_x2 m   H) (And.intro rfl (And.intro rfl (And.intro rfl trivial)))
def F_X12_alike_26  (u : Mu) (P : Int → Prop) : Prop :=
  P 0
theorem T_X12_alike_26  {u : Mu} {P : Int → Prop} {h : Hp} {g : Nat → Nat}  (m : Ms h g u)   (H : F_X12_alike_26 u P) : J mX12_alike 3 0 0 (nx (QPI h P)) 26 [none, none, none, none, none, none] [] h := by
  unfold F_X12_alike_26 at H
  refine j_iconst (v := Int32.ofInt 0) (dk dt_X12_alike 14 rfl) (by decide) ?_
  exact j_ireturn (dk dt_X12_alike 15 rfl) rfl (nar_z (by decide)) ⟨_, rfl, (by decide), rfl, H⟩
def F_X12_alike_164  (u : Mu) (P : Int → Prop) : Prop :=
  P 0
theorem T_X12_alike_164  {u : Mu} {P : Int → Prop} {h : Hp} {g : Nat → Nat}  (m : Ms h g u)   (H : F_X12_alike_164 u P) : J mX12_alike 3 0 0 (nx (QPI h P)) 164 [none, none, none, none, none, none] [] h := by
  unfold F_X12_alike_164 at H
  refine j_iconst (v := Int32.ofInt 0) (dk dt_X12_alike 98 rfl) (by decide) ?_
  exact j_ireturn (dk dt_X12_alike 99 rfl) rfl (nar_z (by decide)) ⟨_, rfl, (by decide), rfl, H⟩
def L_X12_alike_66  (x1 : Int) (x2 : Int) (x3 : Int) (x4 : Int) (x5 : Int) (u : Mu) (P : (Int × Int) ⊕ ((Int)) → Prop) : Prop :=
  (if x3 ≤ x5 then P (.inr x4) else (if x4 = 0 then P (.inr x4) else F_X12_sameParts (w32 (w32 (x1 - 1) + x5)) (w32 (w32 (x2 - 1) + x5)) u (fun x_90 => P (.inl (x_90, w32 (x5 + 1))))))
theorem U_X12_alike_66  {x1 : Int} {x2 : Int} {x3 : Int} {x4 : Int} {x5 : Int} {u : Mu} {P : (Int × Int) ⊕ ((Int)) → Prop} {h : Hp} {g : Nat → Nat} {post : Option Sv ⊕ String → Hp → Prop} (r_x1 : R32 x1) (r_x2 : R32 x2) (r_x3 : R32 x3) (r_x4 : R32 x4) (r_x5 : R32 x5) (m : Ms h g u)  (hl : ∀ (x4 : Int) (x5 : Int), P (.inl (x4, x5)) → R32 x4 → R32 x5 → J mX12_alike 3 0 0 post 66 [some (vr (some (g 0))), some (ii (x1)), some (ii (x2)), some (ii (x3)), some (ii (x4)), some (ii (x5))] [] h) (he0 : ∀ (x4 : Int), P (.inr x4) → R32 x4 → J mX12_alike 3 0 0 post 101 [none, none, none, none, some (ii (x4)), none] [] h) (H : L_X12_alike_66 x1 x2 x3 x4 x5 u P) : J mX12_alike 3 0 0 post 66 [some (vr (some (g 0))), some (ii (x1)), some (ii (x2)), some (ii (x3)), some (ii (x4)), some (ii (x5))] [] h := by
  unfold L_X12_alike_66 at H
  refine j_iload (dk dt_X12_alike 40 rfl) rfl ?_
  refine j_iload_n (dk dt_X12_alike 41 rfl) rfl ?_
  refine jz_icmp_ge 101 (dk dt_X12_alike 42 rfl) (by decide) r_x5 r_x3 H (fun H => ?_) (fun H => ?_)
  · exact j_el (he0 _ H r_x4) (And.intro rfl trivial)
  · refine j_iload (dk dt_X12_alike 43 rfl) rfl ?_
    refine jz_if_eq 101 (dk dt_X12_alike 44 rfl) (by decide) r_x4 H (fun H => ?_) (fun H => ?_)
    · exact j_el (he0 _ H r_x4) (And.intro rfl trivial)
    · refine j_aload_n (dk dt_X12_alike 45 rfl) rfl ?_
      refine j_iload_n (dk dt_X12_alike 46 rfl) rfl ?_
      refine j_iconst (v := Int32.ofInt 1) (dk dt_X12_alike 47 rfl) (by decide) ?_
      refine jz_isub (dk dt_X12_alike 48 rfl) ?_
      refine j_iload (dk dt_X12_alike 49 rfl) rfl ?_
      refine jz_iadd (dk dt_X12_alike 50 rfl) ?_
      refine j_iload_n (dk dt_X12_alike 51 rfl) rfl ?_
      refine j_iconst (v := Int32.ofInt 1) (dk dt_X12_alike 52 rfl) (by decide) ?_
      refine jz_isub (dk dt_X12_alike 53 rfl) ?_
      refine j_iload (dk dt_X12_alike 54 rfl) rfl ?_
      refine jz_iadd (dk dt_X12_alike 55 rfl) ?_
      refine jz_callV2 (dk dt_X12_alike 56 rfl) vl_X12_248 rfl (T_X12_sameParts (r32_w _) (r32_w _) m H) m.1.1 rfl (by decide) (Nat.zero_le _) (Nat.zero_le _) (Nat.le_of_ble_eq_true rfl) (fun v_90 h_90 P_90 => ?_)
      obtain ⟨x_90, rfl, r_90, rfl, H⟩ := P_90
      dsimp only [rs]
      refine j_istore (dk dt_X12_alike 57 rfl) (by decide) ?_
      refine jz_iinc (dk dt_X12_alike 58 rfl) rfl ?_
      refine j_goto 66 (dk dt_X12_alike 59 rfl) (by decide) ?_
      exact j_el (hl _ _ H r_90 (r32_w _)) (And.intro rfl (And.intro rfl (And.intro rfl (And.intro rfl (And.intro rfl (And.intro rfl trivial))))))
def F_X12_alike_101  (x4 : Int) (u : Mu) (P : Int → Prop) : Prop :=
  (Z1 x4 ∧ P x4)
theorem T_X12_alike_101  {x4 : Int} {u : Mu} {P : Int → Prop} {h : Hp} {g : Nat → Nat} (r_x4 : R32 x4) (m : Ms h g u)   (H : F_X12_alike_101 x4 u P) : J mX12_alike 3 0 0 (nx (QPI h P)) 101 [none, none, none, none, some (ii (x4)), none] [] h := by
  unfold F_X12_alike_101 at H
  refine j_iload (dk dt_X12_alike 60 rfl) rfl ?_
  obtain ⟨hz_, H⟩ := H
  exact j_ireturn (dk dt_X12_alike 61 rfl) rfl (nar_z hz_) ⟨_, rfl, r_x4, rfl, H⟩
def F_X12_alike_66  (x1 : Int) (x2 : Int) (x3 : Int) (x4 : Int) (x5 : Int) (u : Mu) (P : Int → Prop) : Prop :=
  lp (S := Int × Int) (E := (Int)) (fun q P_ => L_X12_alike_66 x1 x2 x3 q.1 q.2 u P_) (x4, x5) (fun (x4 : Int) => F_X12_alike_101 x4 u P)
theorem T_X12_alike_66  {x1 : Int} {x2 : Int} {x3 : Int} {x4 : Int} {x5 : Int} {u : Mu} {P : Int → Prop} {h : Hp} {g : Nat → Nat} (r_x1 : R32 x1) (r_x2 : R32 x2) (r_x3 : R32 x3) (r_x4 : R32 x4) (r_x5 : R32 x5) (m : Ms h g u)   (H : F_X12_alike_66 x1 x2 x3 x4 x5 u P) : J mX12_alike 3 0 0 (nx (QPI h P)) 66 [some (vr (some (g 0))), some (ii (x1)), some (ii (x2)), some (ii (x3)), some (ii (x4)), some (ii (x5))] [] h := by
  unfold F_X12_alike_66 at H
  refine lp_J (G := fun q => R32 (q.1) → R32 (q.2) → J mX12_alike 3 0 0 (nx (QPI h P)) 66 [some (vr (some (g 0))), some (ii (x1)), some (ii (x2)), some (ii (x3)), some (ii ((q.1))), some (ii ((q.2)))] [] h) (fun q P_ hl_ he_ Hb => ?_) (x4, x5) H r_x4 r_x5
  obtain ⟨x4, x5⟩ := q
  intro r_x4 r_x5
  refine U_X12_alike_66 (P := P_) r_x1 r_x2 r_x3 r_x4 r_x5 m  (fun x4 x5 Hp r_x4 r_x5 => hl_ (x4, x5) Hp r_x4 r_x5) ?_ Hb
  · intro x4 Hp r_x4
    have H := he_ _ Hp
    exact j_el (T_X12_alike_101 r_x4 m   H) (And.intro rfl trivial)
def F_X12_alike_61  (x1 : Int) (x2 : Int) (x3 : Int) (s0 : Int) (u : Mu) (P : Int → Prop) : Prop :=
  F_X12_alike_66 x1 x2 x3 s0 0 u P
theorem T_X12_alike_61  {x1 : Int} {x2 : Int} {x3 : Int} {s0 : Int} {u : Mu} {P : Int → Prop} {h : Hp} {g : Nat → Nat} (r_x1 : R32 x1) (r_x2 : R32 x2) (r_x3 : R32 x3) (r_s0 : R32 s0) (m : Ms h g u)   (H : F_X12_alike_61 x1 x2 x3 s0 u P) : J mX12_alike 3 0 0 (nx (QPI h P)) 61 [some (vr (some (g 0))), some (ii (x1)), some (ii (x2)), some (ii (x3)), none, none] [ii (s0)] h := by
  unfold F_X12_alike_61 at H
  refine j_istore (dk dt_X12_alike 37 rfl) (by decide) ?_
  refine j_iconst (v := Int32.ofInt 0) (dk dt_X12_alike 38 rfl) (by decide) ?_
  refine j_istore (dk dt_X12_alike 39 rfl) (by decide) ?_
  exact j_el (T_X12_alike_66 r_x1 r_x2 r_x3 r_s0 (by decide) m   H) (And.intro rfl (And.intro rfl (And.intro rfl (And.intro rfl (And.intro rfl (And.intro rfl trivial))))))
def F_X12_alike  (x1 : Int) (x2 : Int) (u : Mu) (P : Int → Prop) : Prop :=
  (if x1 = x2 then P 1 else (if x1 = 0 then F_X12_alike_26 u P else (if x2 = 0 then F_X12_alike_26 u P else F_X12_isFormula x1 (fun x_16 => F_X12_isFormula x2 (fun x_20 => (if x_16 = x_20 then F_X12_isFormula x1 (fun x_29 => (if x_29 = 0 then (0 ≤ w32 (x1 - 100000) ∧ w32 (x1 - 100000) < 4200 ∧ (0 ≤ w32 (x2 - 100000) ∧ w32 (x2 - 100000) < 4200 ∧ (if mI u 20 (w32 (x1 - 100000)) = mI u 20 (w32 (x2 - 100000)) then (0 ≤ w32 (x1 - 100000) ∧ w32 (x1 - 100000) < 4200 ∧ (0 ≤ w32 (x2 - 100000) ∧ w32 (x2 - 100000) < 4200 ∧ (if mG u 21 (w32 (x1 - 100000)) = mG u 21 (w32 (x2 - 100000)) then (0 ≤ w32 (x1 - 100000) ∧ w32 (x1 - 100000) < 4200 ∧ (0 ≤ w32 (x2 - 100000) ∧ w32 (x2 - 100000) < 4200 ∧ (if mI u 23 (w32 (x1 - 100000)) = mI u 23 (w32 (x2 - 100000)) then (0 ≤ w32 (x1 - 100000) ∧ w32 (x1 - 100000) < 4200 ∧ (0 ≤ w32 (x2 - 100000) ∧ w32 (x2 - 100000) < 4200 ∧ F_X12_sameLetters (mI u 22 (w32 (x1 - 100000))) (mI u 22 (w32 (x2 - 100000))) (mI u 23 (w32 (x1 - 100000))) u (fun x_186 => (Z1 x_186 ∧ P x_186)))) else F_X12_alike_164 u P))) else F_X12_alike_164 u P))) else F_X12_alike_164 u P))) else (0 ≤ w32 (x1 - 1) ∧ w32 (x1 - 1) < 60420 ∧ (0 ≤ w32 (x2 - 1) ∧ w32 (x2 - 1) < 60420 ∧ (if mI u 38 (w32 (x2 - 1)) = mI u 38 (w32 (x1 - 1)) then F_X12_alike_61 x1 x2 (mI u 38 (w32 (x1 - 1))) 1 u P else F_X12_alike_61 x1 x2 (mI u 38 (w32 (x1 - 1))) 0 u P))))) else F_X12_alike_26 u P))))))
theorem T_X12_alike  {x1 : Int} {x2 : Int} {u : Mu} {P : Int → Prop} {h : Hp} {g : Nat → Nat} (r_x1 : R32 x1) (r_x2 : R32 x2) (m : Ms h g u)  (H : F_X12_alike x1 x2 u P) : Con mX12_alike 3 0 0 [vr (some (g 0)), ii (x1), ii (x2)] h (QPI h P) := by
  refine con_of rfl (Nat.le_of_ble_eq_true rfl) (by decide) ?_
  show J mX12_alike 3 0 0 _ 0 [some (vr (some (g 0))), some (ii (x1)), some (ii (x2)), none, none, none] [] h
  unfold F_X12_alike at H
  refine j_iload_n (dk dt_X12_alike 0 rfl) rfl ?_
  refine j_iload_n (dk dt_X12_alike 1 rfl) rfl ?_
  refine jz_icmp_ne 7 (dk dt_X12_alike 2 rfl) (by decide) r_x1 r_x2 H (fun H => ?_) (fun H => ?_)
  · refine j_iconst (v := Int32.ofInt 1) (dk dt_X12_alike 3 rfl) (by decide) ?_
    exact j_ireturn (dk dt_X12_alike 4 rfl) rfl (nar_z (by decide)) ⟨_, rfl, (by decide), rfl, H⟩
  · refine j_iload_n (dk dt_X12_alike 5 rfl) rfl ?_
    refine jz_if_eq 26 (dk dt_X12_alike 6 rfl) (by decide) r_x1 H (fun H => ?_) (fun H => ?_)
    · exact j_el (T_X12_alike_26  m   H) trivial
    · refine j_iload_n (dk dt_X12_alike 7 rfl) rfl ?_
      refine jz_if_eq 26 (dk dt_X12_alike 8 rfl) (by decide) r_x2 H (fun H => ?_) (fun H => ?_)
      · exact j_el (T_X12_alike_26  m   H) trivial
      · refine j_iload_n (dk dt_X12_alike 9 rfl) rfl ?_
        refine j_callS1 (dk dt_X12_alike 10 rfl) sl_X12_244 (T_X12_isFormula r_x1 H) rfl (by decide) (Nat.zero_le _) (Nat.zero_le _) (Nat.le_of_ble_eq_true rfl) (fun v_16 h_16 P_16 => ?_)
        obtain ⟨x_16, rfl, r_16, rfl, H⟩ := P_16
        dsimp only [rs]
        refine j_iload_n (dk dt_X12_alike 11 rfl) rfl ?_
        refine j_callS1 (dk dt_X12_alike 12 rfl) sl_X12_244 (T_X12_isFormula r_x2 H) rfl (by decide) (Nat.zero_le _) (Nat.zero_le _) (Nat.le_of_ble_eq_true rfl) (fun v_20 h_20 P_20 => ?_)
        obtain ⟨x_20, rfl, r_20, rfl, H⟩ := P_20
        dsimp only [rs]
        refine jz_icmp_eq 28 (dk dt_X12_alike 13 rfl) (by decide) r_16 r_20 H (fun H => ?_) (fun H => ?_)
        · refine j_iload_n (dk dt_X12_alike 16 rfl) rfl ?_
          refine j_callS1 (dk dt_X12_alike 17 rfl) sl_X12_244 (T_X12_isFormula r_x1 H) rfl (by decide) (Nat.zero_le _) (Nat.zero_le _) (Nat.le_of_ble_eq_true rfl) (fun v_29 h_29 P_29 => ?_)
          obtain ⟨x_29, rfl, r_29, rfl, H⟩ := P_29
          dsimp only [rs]
          refine jz_if_eq 104 (dk dt_X12_alike 18 rfl) (by decide) r_29 H (fun H => ?_) (fun H => ?_)
          · refine j_iload_n (dk dt_X12_alike 62 rfl) rfl ?_
            refine j_ldc (v := Int32.ofInt (100000)) (dk dt_X12_alike 63 rfl) (by exact kl_X12_240) ?_
            refine jz_isub (dk dt_X12_alike 64 rfl) ?_
            refine j_istore_n (dk dt_X12_alike 65 rfl) (by decide) ?_
            refine j_iload_n (dk dt_X12_alike 66 rfl) rfl ?_
            refine j_ldc (v := Int32.ofInt (100000)) (dk dt_X12_alike 67 rfl) (by exact kl_X12_240) ?_
            refine jz_isub (dk dt_X12_alike 68 rfl) ?_
            refine j_istore (dk dt_X12_alike 69 rfl) (by decide) ?_
            refine j_aload_n (dk dt_X12_alike 70 rfl) rfl ?_
            refine jm_getA (dk dt_X12_alike 71 rfl) fl_X12_53 rfl (c := 14) rfl m ?_
            refine j_iload_n (dk dt_X12_alike 72 rfl) rfl ?_
            obtain ⟨p_120, q_120, H⟩ := H
            refine jm_iald (dk dt_X12_alike 73 rfl) rfl rfl m p_120 q_120 ?_
            refine j_aload_n (dk dt_X12_alike 74 rfl) rfl ?_
            refine jm_getA (dk dt_X12_alike 75 rfl) fl_X12_53 rfl (c := 14) rfl m ?_
            refine j_iload (dk dt_X12_alike 76 rfl) rfl ?_
            obtain ⟨p_127, q_127, H⟩ := H
            refine jm_iald (dk dt_X12_alike 77 rfl) rfl rfl m p_127 q_127 ?_
            refine jz_icmp_ne 164 (dk dt_X12_alike 78 rfl) (by decide) (m.2.1.1 _ _) (m.2.1.1 _ _) H (fun H => ?_) (fun H => ?_)
            · refine j_aload_n (dk dt_X12_alike 79 rfl) rfl ?_
              refine jm_getA (dk dt_X12_alike 80 rfl) fl_X12_56 rfl (c := 15) rfl m ?_
              refine j_iload_n (dk dt_X12_alike 81 rfl) rfl ?_
              obtain ⟨p_136, q_136, H⟩ := H
              refine jm_lald (dk dt_X12_alike 82 rfl) rfl rfl m p_136 q_136 ?_
              refine j_aload_n (dk dt_X12_alike 83 rfl) rfl ?_
              refine jm_getA (dk dt_X12_alike 84 rfl) fl_X12_56 rfl (c := 15) rfl m ?_
              refine j_iload (dk dt_X12_alike 85 rfl) rfl ?_
              obtain ⟨p_143, q_143, H⟩ := H
              refine jm_lald (dk dt_X12_alike 86 rfl) rfl rfl m p_143 q_143 ?_
              refine jz_lcmp (dk dt_X12_alike 87 rfl) (m.2.1.2.1 _ _) (m.2.1.2.1 _ _) ?_
              refine jz_lif_ne 164 (dk dt_X12_alike 88 rfl) (by decide) H (fun H => ?_) (fun H => ?_)
              · refine j_aload_n (dk dt_X12_alike 89 rfl) rfl ?_
                refine jm_getA (dk dt_X12_alike 90 rfl) fl_X12_63 rfl (c := 14) rfl m ?_
                refine j_iload_n (dk dt_X12_alike 91 rfl) rfl ?_
                obtain ⟨p_153, q_153, H⟩ := H
                refine jm_iald (dk dt_X12_alike 92 rfl) rfl rfl m p_153 q_153 ?_
                refine j_aload_n (dk dt_X12_alike 93 rfl) rfl ?_
                refine jm_getA (dk dt_X12_alike 94 rfl) fl_X12_63 rfl (c := 14) rfl m ?_
                refine j_iload (dk dt_X12_alike 95 rfl) rfl ?_
                obtain ⟨p_160, q_160, H⟩ := H
                refine jm_iald (dk dt_X12_alike 96 rfl) rfl rfl m p_160 q_160 ?_
                refine jz_icmp_eq 166 (dk dt_X12_alike 97 rfl) (by decide) (m.2.1.1 _ _) (m.2.1.1 _ _) H (fun H => ?_) (fun H => ?_)
                · refine j_aload_n (dk dt_X12_alike 100 rfl) rfl ?_
                  refine j_aload_n (dk dt_X12_alike 101 rfl) rfl ?_
                  refine jm_getA (dk dt_X12_alike 102 rfl) fl_X12_60 rfl (c := 14) rfl m ?_
                  refine j_iload_n (dk dt_X12_alike 103 rfl) rfl ?_
                  obtain ⟨p_172, q_172, H⟩ := H
                  refine jm_iald (dk dt_X12_alike 104 rfl) rfl rfl m p_172 q_172 ?_
                  refine j_aload_n (dk dt_X12_alike 105 rfl) rfl ?_
                  refine jm_getA (dk dt_X12_alike 106 rfl) fl_X12_60 rfl (c := 14) rfl m ?_
                  refine j_iload (dk dt_X12_alike 107 rfl) rfl ?_
                  obtain ⟨p_179, q_179, H⟩ := H
                  refine jm_iald (dk dt_X12_alike 108 rfl) rfl rfl m p_179 q_179 ?_
                  refine j_aload_n (dk dt_X12_alike 109 rfl) rfl ?_
                  refine jm_getA (dk dt_X12_alike 110 rfl) fl_X12_63 rfl (c := 14) rfl m ?_
                  refine j_iload_n (dk dt_X12_alike 111 rfl) rfl ?_
                  refine jm_iald (dk dt_X12_alike 112 rfl) rfl rfl m p_153 q_153 ?_
                  refine jz_callV3 (dk dt_X12_alike 113 rfl) vl_X12_241 rfl (T_X12_sameLetters (m.2.1.1 _ _) (m.2.1.1 _ _) (m.2.1.1 _ _) m H) m.1.1 rfl (by decide) (Nat.zero_le _) (Nat.zero_le _) (Nat.le_of_ble_eq_true rfl) (fun v_186 h_186 P_186 => ?_)
                  obtain ⟨x_186, rfl, r_186, rfl, H⟩ := P_186
                  dsimp only [rs]
                  obtain ⟨hz_, H⟩ := H
                  exact j_ireturn (dk dt_X12_alike 114 rfl) rfl (nar_z hz_) ⟨_, rfl, r_186, rfl, H⟩
                · exact j_el (T_X12_alike_164  m   H) trivial
              · exact j_el (T_X12_alike_164  m   H) trivial
            · exact j_el (T_X12_alike_164  m   H) trivial
          · refine j_aload_n (dk dt_X12_alike 19 rfl) rfl ?_
            refine jm_getA (dk dt_X12_alike 20 rfl) fl_X12_103 rfl (c := 14) rfl m ?_
            refine j_iload_n (dk dt_X12_alike 21 rfl) rfl ?_
            refine j_iconst (v := Int32.ofInt 1) (dk dt_X12_alike 22 rfl) (by decide) ?_
            refine jz_isub (dk dt_X12_alike 23 rfl) ?_
            obtain ⟨p_42, q_42, H⟩ := H
            refine jm_iald (dk dt_X12_alike 24 rfl) rfl rfl m p_42 q_42 ?_
            refine j_istore_n (dk dt_X12_alike 25 rfl) (by decide) ?_
            refine j_aload_n (dk dt_X12_alike 26 rfl) rfl ?_
            refine jm_getA (dk dt_X12_alike 27 rfl) fl_X12_103 rfl (c := 14) rfl m ?_
            refine j_iload_n (dk dt_X12_alike 28 rfl) rfl ?_
            refine j_iconst (v := Int32.ofInt 1) (dk dt_X12_alike 29 rfl) (by decide) ?_
            refine jz_isub (dk dt_X12_alike 30 rfl) ?_
            obtain ⟨p_51, q_51, H⟩ := H
            refine jm_iald (dk dt_X12_alike 31 rfl) rfl rfl m p_51 q_51 ?_
            refine j_iload_n (dk dt_X12_alike 32 rfl) rfl ?_
            refine jz_icmp_ne 60 (dk dt_X12_alike 33 rfl) (by decide) (m.2.1.1 _ _) (m.2.1.1 _ _) H (fun H => ?_) (fun H => ?_)
            · refine j_iconst (v := Int32.ofInt 1) (dk dt_X12_alike 34 rfl) (by decide) ?_
              refine j_goto 61 (dk dt_X12_alike 35 rfl) (by decide) ?_
              exact j_el (T_X12_alike_61 r_x1 r_x2 (m.2.1.1 _ _) (by decide) m   H) (And.intro rfl (And.intro rfl (And.intro rfl (And.intro rfl trivial))))
            · refine j_iconst (v := Int32.ofInt 0) (dk dt_X12_alike 36 rfl) (by decide) ?_
              exact j_el (T_X12_alike_61 r_x1 r_x2 (m.2.1.1 _ _) (by decide) m   H) (And.intro rfl (And.intro rfl (And.intro rfl (And.intro rfl trivial))))
        · exact j_el (T_X12_alike_26  m   H) trivial
def F_X12_ancestors_20  (x1 : Int) (x2 : Nat) (x3 : Int) (s0 : Nat) (s1 : Int) (s2 : Int) (u : Mu) (P : (Int × Mu) ⊕ ((Mu)) → Prop) : Prop :=
  (Z1 s2 ∧ (mkl.getD s0 0 = 17 ∧ (0 ≤ s1 ∧ s1 < ((mnl.getD s0 0 : Nat) : Int) ∧ (∀ u_20, u_20 = uI u s0 s1 s2 → P (.inl (w32 (x3 + 1), u_20))))))
theorem T_X12_ancestors_20  {x1 : Int} {x2 : Nat} {x3 : Int} {s0 : Nat} {s1 : Int} {s2 : Int} {u : Mu} {P : (Int × Mu) ⊕ ((Mu)) → Prop} {h : Hp} {g : Nat → Nat} {post : Option Sv ⊕ String → Hp → Prop} (r_x1 : R32 x1) (r_x3 : R32 x3) (r_s1 : R32 s1) (r_s2 : R32 s2) (m : Ms h g u)  (hl : ∀ (x3 : Int) (u : Mu) (h : Hp), P (.inl (x3, u)) → Ms h g u → R32 x3 → J mX12_ancestors 1 0 0 post 2 [some (vr (some (g 0))), some (ii (x1)), some (vr (some (g (x2)))), some (ii (x3))] [] h) (he0 : ∀ (u : Mu) (h : Hp), P (.inr u) → Ms h g u → J mX12_ancestors 1 0 0 post 27 [some (vr (some (g 0))), some (ii (x1)), some (vr (some (g (x2)))), none] [] h) (H : F_X12_ancestors_20 x1 x2 x3 s0 s1 s2 u P) : J mX12_ancestors 1 0 0 (post) 20 [some (vr (some (g 0))), some (ii (x1)), some (vr (some (g (x2)))), some (ii (x3))] [ii (s2), ii (s1), vr (some (g (s0)))] h := by
  unfold F_X12_ancestors_20 at H
  obtain ⟨z1_20, H⟩ := H
  obtain ⟨k_20, H⟩ := H
  obtain ⟨p_20, q_20, H⟩ := H
  refine jm_zast (dk dt_X12_ancestors 13 rfl) k_20 rfl m p_20 q_20 z1_20 (fun h_20 m_20 => ?_)
  replace H := H _ rfl
  refine jz_iinc (dk dt_X12_ancestors 14 rfl) rfl ?_
  refine j_goto 2 (dk dt_X12_ancestors 15 rfl) (by decide) ?_
  exact j_el (hl _ _ _ H m_20 (r32_w _)) (And.intro rfl (And.intro rfl (And.intro rfl (And.intro rfl trivial))))
def L_X12_ancestors_2  (x1 : Int) (x2 : Nat) (x3 : Int) (u : Mu) (P : (Int × Mu) ⊕ ((Mu)) → Prop) : Prop :=
  (if 40 ≤ x3 then P (.inr u) else (if x3 = x1 then F_X12_ancestors_20 x1 x2 x3 x2 x3 1 u P else F_X12_ancestors_20 x1 x2 x3 x2 x3 0 u P))
theorem U_X12_ancestors_2  {x1 : Int} {x2 : Nat} {x3 : Int} {u : Mu} {P : (Int × Mu) ⊕ ((Mu)) → Prop} {h : Hp} {g : Nat → Nat} {post : Option Sv ⊕ String → Hp → Prop} (r_x1 : R32 x1) (r_x3 : R32 x3) (m : Ms h g u)  (hl : ∀ (x3 : Int) (u : Mu) (h : Hp), P (.inl (x3, u)) → Ms h g u → R32 x3 → J mX12_ancestors 1 0 0 post 2 [some (vr (some (g 0))), some (ii (x1)), some (vr (some (g (x2)))), some (ii (x3))] [] h) (he0 : ∀ (u : Mu) (h : Hp), P (.inr u) → Ms h g u → J mX12_ancestors 1 0 0 post 27 [some (vr (some (g 0))), some (ii (x1)), some (vr (some (g (x2)))), none] [] h) (H : L_X12_ancestors_2 x1 x2 x3 u P) : J mX12_ancestors 1 0 0 post 2 [some (vr (some (g 0))), some (ii (x1)), some (vr (some (g (x2)))), some (ii (x3))] [] h := by
  unfold L_X12_ancestors_2 at H
  refine j_iload_n (dk dt_X12_ancestors 2 rfl) rfl ?_
  refine j_bipush (v := Int32.ofInt 40) (dk dt_X12_ancestors 3 rfl) (by decide) ?_
  refine jz_icmp_ge 27 (dk dt_X12_ancestors 4 rfl) (by decide) r_x3 (by decide) H (fun H => ?_) (fun H => ?_)
  · exact j_el (he0 _ _ H m) (And.intro rfl (And.intro rfl (And.intro rfl trivial)))
  · refine j_aload_n (dk dt_X12_ancestors 5 rfl) rfl ?_
    refine j_iload_n (dk dt_X12_ancestors 6 rfl) rfl ?_
    refine j_iload_n (dk dt_X12_ancestors 7 rfl) rfl ?_
    refine j_iload_n (dk dt_X12_ancestors 8 rfl) rfl ?_
    refine jz_icmp_ne 19 (dk dt_X12_ancestors 9 rfl) (by decide) r_x3 r_x1 H (fun H => ?_) (fun H => ?_)
    · refine j_iconst (v := Int32.ofInt 1) (dk dt_X12_ancestors 10 rfl) (by decide) ?_
      refine j_goto 20 (dk dt_X12_ancestors 11 rfl) (by decide) ?_
      exact j_el (T_X12_ancestors_20 r_x1 r_x3 r_x3 (by decide) m  hl he0 H) (And.intro rfl (And.intro rfl (And.intro rfl (And.intro rfl trivial))))
    · refine j_iconst (v := Int32.ofInt 0) (dk dt_X12_ancestors 12 rfl) (by decide) ?_
      exact j_el (T_X12_ancestors_20 r_x1 r_x3 r_x3 (by decide) m  hl he0 H) (And.intro rfl (And.intro rfl (And.intro rfl (And.intro rfl trivial))))
def F_X12_ancestors_66  (x2 : Nat) (x3 : Int) (u : Mu) (P : (Int × Mu) ⊕ ((Mu)) → Prop) : Prop :=
  P (.inl (w32 (x3 + (-1)), u))
theorem T_X12_ancestors_66  {x2 : Nat} {x3 : Int} {u : Mu} {P : (Int × Mu) ⊕ ((Mu)) → Prop} {h : Hp} {g : Nat → Nat} {post : Option Sv ⊕ String → Hp → Prop} (r_x3 : R32 x3) (m : Ms h g u)  (hl : ∀ (x3 : Int) (u : Mu) (h : Hp), P (.inl (x3, u)) → Ms h g u → R32 x3 → J mX12_ancestors 1 0 0 post 29 [some (vr (some (g 0))), none, some (vr (some (g (x2)))), some (ii (x3))] [] h) (he0 : ∀ (u : Mu) (h : Hp), P (.inr u) → Ms h g u → J mX12_ancestors 1 0 0 post 72 [none, none, none, none] [] h) (H : F_X12_ancestors_66 x2 x3 u P) : J mX12_ancestors 1 0 0 (post) 66 [some (vr (some (g 0))), none, some (vr (some (g (x2)))), some (ii (x3))] [] h := by
  unfold F_X12_ancestors_66 at H
  refine jz_iinc (dk dt_X12_ancestors 43 rfl) rfl ?_
  refine j_goto 29 (dk dt_X12_ancestors 44 rfl) (by decide) ?_
  exact j_el (hl _ _ _ H m (r32_w _)) (And.intro rfl (And.intro rfl (And.intro rfl trivial)))
def L_X12_ancestors_29  (x2 : Nat) (x3 : Int) (u : Mu) (P : (Int × Mu) ⊕ ((Mu)) → Prop) : Prop :=
  (if x3 ≤ 0 then P (.inr u) else (mkl.getD x2 0 = 17 ∧ (0 ≤ x3 ∧ x3 < ((mnl.getD x2 0 : Nat) : Int) ∧ (if mI u x2 x3 = 0 then F_X12_ancestors_66 x2 x3 u P else (0 ≤ x3 ∧ x3 < 40 ∧ (0 ≤ mI u 9 x3 ∧ mI u 9 x3 < ((mnl.getD x2 0 : Nat) : Int) ∧ (∀ u_47, u_47 = uI u x2 (mI u 9 x3) 1 → (0 ≤ x3 ∧ x3 < 40 ∧ (if mI u_47 10 x3 < 0 then F_X12_ancestors_66 x2 x3 u_47 P else (0 ≤ mI u_47 10 x3 ∧ mI u_47 10 x3 < ((mnl.getD x2 0 : Nat) : Int) ∧ (∀ u_65, u_65 = uI u_47 x2 (mI u_47 10 x3) 1 → F_X12_ancestors_66 x2 x3 u_65 P)))))))))))
theorem U_X12_ancestors_29  {x2 : Nat} {x3 : Int} {u : Mu} {P : (Int × Mu) ⊕ ((Mu)) → Prop} {h : Hp} {g : Nat → Nat} {post : Option Sv ⊕ String → Hp → Prop} (r_x3 : R32 x3) (m : Ms h g u)  (hl : ∀ (x3 : Int) (u : Mu) (h : Hp), P (.inl (x3, u)) → Ms h g u → R32 x3 → J mX12_ancestors 1 0 0 post 29 [some (vr (some (g 0))), none, some (vr (some (g (x2)))), some (ii (x3))] [] h) (he0 : ∀ (u : Mu) (h : Hp), P (.inr u) → Ms h g u → J mX12_ancestors 1 0 0 post 72 [none, none, none, none] [] h) (H : L_X12_ancestors_29 x2 x3 u P) : J mX12_ancestors 1 0 0 post 29 [some (vr (some (g 0))), none, some (vr (some (g (x2)))), some (ii (x3))] [] h := by
  unfold L_X12_ancestors_29 at H
  refine j_iload_n (dk dt_X12_ancestors 18 rfl) rfl ?_
  refine jz_if_le 72 (dk dt_X12_ancestors 19 rfl) (by decide) r_x3 H (fun H => ?_) (fun H => ?_)
  · exact j_el (he0 _ _ H m) trivial
  · refine j_aload_n (dk dt_X12_ancestors 20 rfl) rfl ?_
    refine j_iload_n (dk dt_X12_ancestors 21 rfl) rfl ?_
    obtain ⟨k_35, H⟩ := H
    obtain ⟨p_35, q_35, H⟩ := H
    refine jm_zald (dk dt_X12_ancestors 22 rfl) k_35 rfl m p_35 q_35 ?_
    refine jz_if_eq 66 (dk dt_X12_ancestors 23 rfl) (by decide) (m.2.1.1 _ _) H (fun H => ?_) (fun H => ?_)
    · exact j_el (T_X12_ancestors_66 r_x3 m  hl he0 H) (And.intro rfl (And.intro rfl (And.intro rfl trivial)))
    · refine j_aload_n (dk dt_X12_ancestors 24 rfl) rfl ?_
      refine j_aload_n (dk dt_X12_ancestors 25 rfl) rfl ?_
      refine jm_getA (dk dt_X12_ancestors 26 rfl) fl_X12_36 rfl (c := 14) rfl m ?_
      refine j_iload_n (dk dt_X12_ancestors 27 rfl) rfl ?_
      obtain ⟨p_45, q_45, H⟩ := H
      refine jm_iald (dk dt_X12_ancestors 28 rfl) rfl rfl m p_45 q_45 ?_
      refine j_iconst (v := Int32.ofInt 1) (dk dt_X12_ancestors 29 rfl) (by decide) ?_
      obtain ⟨p_47, q_47, H⟩ := H
      refine jm_zast (dk dt_X12_ancestors 30 rfl) k_35 rfl m p_47 q_47 (by decide) (fun h_47 m_47 => ?_)
      replace H := H _ rfl
      refine j_aload_n (dk dt_X12_ancestors 31 rfl) rfl ?_
      refine jm_getA (dk dt_X12_ancestors 32 rfl) fl_X12_39 rfl (c := 14) rfl m_47 ?_
      refine j_iload_n (dk dt_X12_ancestors 33 rfl) rfl ?_
      obtain ⟨p_53, q_53, H⟩ := H
      refine jm_iald (dk dt_X12_ancestors 34 rfl) rfl rfl m_47 p_53 q_53 ?_
      refine jz_if_lt 66 (dk dt_X12_ancestors 35 rfl) (by decide) (m_47.2.1.1 _ _) H (fun H => ?_) (fun H => ?_)
      · exact j_el (T_X12_ancestors_66 r_x3 m_47  hl he0 H) (And.intro rfl (And.intro rfl (And.intro rfl trivial)))
      · refine j_aload_n (dk dt_X12_ancestors 36 rfl) rfl ?_
        refine j_aload_n (dk dt_X12_ancestors 37 rfl) rfl ?_
        refine jm_getA (dk dt_X12_ancestors 38 rfl) fl_X12_39 rfl (c := 14) rfl m_47 ?_
        refine j_iload_n (dk dt_X12_ancestors 39 rfl) rfl ?_
        refine jm_iald (dk dt_X12_ancestors 40 rfl) rfl rfl m_47 p_53 q_53 ?_
        refine j_iconst (v := Int32.ofInt 1) (dk dt_X12_ancestors 41 rfl) (by decide) ?_
        obtain ⟨p_65, q_65, H⟩ := H
        refine jm_zast (dk dt_X12_ancestors 42 rfl) k_35 rfl m_47 p_65 q_65 (by decide) (fun h_65 m_65 => ?_)
        replace H := H _ rfl
        exact j_el (T_X12_ancestors_66 r_x3 m_65  hl he0 H) (And.intro rfl (And.intro rfl (And.intro rfl trivial)))
def F_X12_ancestors_29  (x2 : Nat) (x3 : Int) (u : Mu) (P : Mu → Prop) : Prop :=
  lp (S := Int × Mu) (E := (Mu)) (fun q P_ => L_X12_ancestors_29 x2 q.1 q.2 P_) (x3, u) (fun (u : Mu) => P u)
theorem T_X12_ancestors_29  {x2 : Nat} {x3 : Int} {u : Mu} {P : Mu → Prop} {h : Hp} {g : Nat → Nat} (r_x3 : R32 x3) (m : Ms h g u)   (H : F_X12_ancestors_29 x2 x3 u P) : J mX12_ancestors 1 0 0 (nx (QMV g P)) 29 [some (vr (some (g 0))), none, some (vr (some (g (x2)))), some (ii (x3))] [] h := by
  unfold F_X12_ancestors_29 at H
  refine lp_J (G := fun q => ∀ h : Hp, Ms h g (q.2) → R32 (q.1) → J mX12_ancestors 1 0 0 (nx (QMV g P)) 29 [some (vr (some (g 0))), none, some (vr (some (g (x2)))), some (ii ((q.1)))] [] h) (fun q P_ hl_ he_ Hb => ?_) (x3, u) H _ m r_x3
  obtain ⟨x3, u⟩ := q
  intro h m r_x3
  refine U_X12_ancestors_29 (P := P_) r_x3 m  (fun x3 u h Hp m r_x3 => hl_ (x3, u) Hp h m r_x3) ?_ Hb
  · intro u h Hp m
    have H := he_ _ Hp
    exact j_return (dk dt_X12_ancestors 45 rfl) rfl ⟨_, rfl, m, H⟩
def F_X12_ancestors_2  (x1 : Int) (x2 : Nat) (x3 : Int) (u : Mu) (P : Mu → Prop) : Prop :=
  lp (S := Int × Mu) (E := (Mu)) (fun q P_ => L_X12_ancestors_2 x1 x2 q.1 q.2 P_) (x3, u) (fun (u : Mu) => F_X12_ancestors_29 x2 x1 u P)
theorem T_X12_ancestors_2  {x1 : Int} {x2 : Nat} {x3 : Int} {u : Mu} {P : Mu → Prop} {h : Hp} {g : Nat → Nat} (r_x1 : R32 x1) (r_x3 : R32 x3) (m : Ms h g u)   (H : F_X12_ancestors_2 x1 x2 x3 u P) : J mX12_ancestors 1 0 0 (nx (QMV g P)) 2 [some (vr (some (g 0))), some (ii (x1)), some (vr (some (g (x2)))), some (ii (x3))] [] h := by
  unfold F_X12_ancestors_2 at H
  refine lp_J (G := fun q => ∀ h : Hp, Ms h g (q.2) → R32 (q.1) → J mX12_ancestors 1 0 0 (nx (QMV g P)) 2 [some (vr (some (g 0))), some (ii (x1)), some (vr (some (g (x2)))), some (ii ((q.1)))] [] h) (fun q P_ hl_ he_ Hb => ?_) (x3, u) H _ m r_x3
  obtain ⟨x3, u⟩ := q
  intro h m r_x3
  refine U_X12_ancestors_2 (P := P_) r_x1 r_x3 m  (fun x3 u h Hp m r_x3 => hl_ (x3, u) Hp h m r_x3) ?_ Hb
  · intro u h Hp m
    have H := he_ _ Hp
    refine j_iload_n (dk dt_X12_ancestors 16 rfl) rfl ?_
    refine j_istore_n (dk dt_X12_ancestors 17 rfl) (by decide) ?_
    exact j_el (T_X12_ancestors_29 r_x1 m   H) (And.intro rfl (And.intro rfl (And.intro rfl trivial)))
def F_X12_ancestors  (x1 : Int) (x2 : Nat) (u : Mu) (P : Mu → Prop) : Prop :=
  F_X12_ancestors_2 x1 x2 0 u P
theorem T_X12_ancestors  {x1 : Int} {x2 : Nat} {u : Mu} {P : Mu → Prop} {h : Hp} {g : Nat → Nat} (r_x1 : R32 x1) (m : Ms h g u)  (H : F_X12_ancestors x1 x2 u P) : Con mX12_ancestors 1 0 0 [vr (some (g 0)), ii (x1), vr (some (g (x2)))] h (QMV g P) := by
  refine con_of rfl (Nat.le_of_ble_eq_true rfl) (by decide) ?_
  show J mX12_ancestors 1 0 0 _ 0 [some (vr (some (g 0))), some (ii (x1)), some (vr (some (g (x2)))), none] [] h
  unfold F_X12_ancestors at H
  refine j_iconst (v := Int32.ofInt 0) (dk dt_X12_ancestors 0 rfl) (by decide) ?_
  refine j_istore_n (dk dt_X12_ancestors 1 rfl) (by decide) ?_
  exact j_el (T_X12_ancestors_2 r_x1 (by decide) m   H) (And.intro rfl (And.intro rfl (And.intro rfl (And.intro rfl trivial))))
def F_X12_least_10  (s0 : Int) (P : Int → Prop) : Prop :=
  P s0
theorem T_X12_least_10  {s0 : Int} {P : Int → Prop} {h : Hp} (r_s0 : R32 s0)    (H : F_X12_least_10 s0 P) : J mX12_least 1 0 0 (nx (QPI h P)) 10 [none, none] [ii (s0)] h := by
  unfold F_X12_least_10 at H
  exact j_ireturn (dk dt_X12_least 6 rfl) rfl rfl ⟨_, rfl, r_s0, rfl, H⟩
def F_X12_least  (x0 : Int) (x1 : Int) (P : Int → Prop) : Prop :=
  (if x1 ≤ x0 then F_X12_least_10 x1 P else F_X12_least_10 x0 P)
theorem T_X12_least  {x0 : Int} {x1 : Int} {P : Int → Prop} {h : Hp} (r_x0 : R32 x0) (r_x1 : R32 x1)   (H : F_X12_least x0 x1 P) : Con mX12_least 1 0 0 [ii (x0), ii (x1)] h (QPI h P) := by
  refine con_of rfl (Nat.le_of_ble_eq_true rfl) (by decide) ?_
  show J mX12_least 1 0 0 _ 0 [some (ii (x0)), some (ii (x1))] [] h
  unfold F_X12_least at H
  refine j_iload_n (dk dt_X12_least 0 rfl) rfl ?_
  refine j_iload_n (dk dt_X12_least 1 rfl) rfl ?_
  refine jz_icmp_ge 9 (dk dt_X12_least 2 rfl) (by decide) r_x0 r_x1 H (fun H => ?_) (fun H => ?_)
  · refine j_iload_n (dk dt_X12_least 5 rfl) rfl ?_
    exact j_el (T_X12_least_10 r_x1    H) trivial
  · refine j_iload_n (dk dt_X12_least 3 rfl) rfl ?_
    refine j_goto 10 (dk dt_X12_least 4 rfl) (by decide) ?_
    exact j_el (T_X12_least_10 r_x0    H) trivial
def F_X12_most_10  (s0 : Int) (P : Int → Prop) : Prop :=
  P s0
theorem T_X12_most_10  {s0 : Int} {P : Int → Prop} {h : Hp} (r_s0 : R32 s0)    (H : F_X12_most_10 s0 P) : J mX12_most 1 0 0 (nx (QPI h P)) 10 [none, none] [ii (s0)] h := by
  unfold F_X12_most_10 at H
  exact j_ireturn (dk dt_X12_most 6 rfl) rfl rfl ⟨_, rfl, r_s0, rfl, H⟩
def F_X12_most  (x0 : Int) (x1 : Int) (P : Int → Prop) : Prop :=
  (if x0 ≤ x1 then F_X12_most_10 x1 P else F_X12_most_10 x0 P)
theorem T_X12_most  {x0 : Int} {x1 : Int} {P : Int → Prop} {h : Hp} (r_x0 : R32 x0) (r_x1 : R32 x1)   (H : F_X12_most x0 x1 P) : Con mX12_most 1 0 0 [ii (x0), ii (x1)] h (QPI h P) := by
  refine con_of rfl (Nat.le_of_ble_eq_true rfl) (by decide) ?_
  show J mX12_most 1 0 0 _ 0 [some (ii (x0)), some (ii (x1))] [] h
  unfold F_X12_most at H
  refine j_iload_n (dk dt_X12_most 0 rfl) rfl ?_
  refine j_iload_n (dk dt_X12_most 1 rfl) rfl ?_
  refine jz_icmp_le 9 (dk dt_X12_most 2 rfl) (by decide) r_x0 r_x1 H (fun H => ?_) (fun H => ?_)
  · refine j_iload_n (dk dt_X12_most 5 rfl) rfl ?_
    exact j_el (T_X12_most_10 r_x1    H) trivial
  · refine j_iload_n (dk dt_X12_most 3 rfl) rfl ?_
    refine j_goto 10 (dk dt_X12_most 4 rfl) (by decide) ?_
    exact j_el (T_X12_most_10 r_x0    H) trivial
def F_X12_lineAt_29  (s0 : Int) (u : Mu) (P : Int → Prop) : Prop :=
  P s0
theorem T_X12_lineAt_29  {s0 : Int} {u : Mu} {P : Int → Prop} {h : Hp} {g : Nat → Nat} (r_s0 : R32 s0) (m : Ms h g u)   (H : F_X12_lineAt_29 s0 u P) : J mX12_lineAt 1 0 0 (nx (QPI h P)) 29 [none, none, none, none] [ii (s0)] h := by
  unfold F_X12_lineAt_29 at H
  exact j_ireturn (dk dt_X12_lineAt 19 rfl) rfl rfl ⟨_, rfl, r_s0, rfl, H⟩
def F_X12_lineAt  (x1 : Int) (x2 : Int) (x3 : Int) (u : Mu) (P : Int → Prop) : Prop :=
  (if x2 = 0 then (0 ≤ w32 (w32 (32 * x1) + x3) ∧ w32 (w32 (32 * x1) + x3) < 3904 ∧ F_X12_lineAt_29 (mI u 3 (w32 (w32 (32 * x1) + x3))) u P) else (0 ≤ w32 (w32 (10 * x1) + x3) ∧ w32 (w32 (10 * x1) + x3) < 1220 ∧ F_X12_lineAt_29 (mI u 4 (w32 (w32 (10 * x1) + x3))) u P))
theorem T_X12_lineAt  {x1 : Int} {x2 : Int} {x3 : Int} {u : Mu} {P : Int → Prop} {h : Hp} {g : Nat → Nat} (r_x1 : R32 x1) (r_x2 : R32 x2) (r_x3 : R32 x3) (m : Ms h g u)  (H : F_X12_lineAt x1 x2 x3 u P) : Con mX12_lineAt 1 0 0 [vr (some (g 0)), ii (x1), ii (x2), ii (x3)] h (QPI h P) := by
  refine con_of rfl (Nat.le_of_ble_eq_true rfl) (by decide) ?_
  show J mX12_lineAt 1 0 0 _ 0 [some (vr (some (g 0))), some (ii (x1)), some (ii (x2)), some (ii (x3))] [] h
  unfold F_X12_lineAt at H
  refine j_iload_n (dk dt_X12_lineAt 0 rfl) rfl ?_
  refine jz_if_ne 18 (dk dt_X12_lineAt 1 rfl) (by decide) r_x2 H (fun H => ?_) (fun H => ?_)
  · refine j_aload_n (dk dt_X12_lineAt 2 rfl) rfl ?_
    refine jm_getA (dk dt_X12_lineAt 3 rfl) fl_X12_16 rfl (c := 14) rfl m ?_
    refine j_bipush (v := Int32.ofInt 32) (dk dt_X12_lineAt 4 rfl) (by decide) ?_
    refine j_iload_n (dk dt_X12_lineAt 5 rfl) rfl ?_
    refine jz_imul (dk dt_X12_lineAt 6 rfl) ?_
    refine j_iload_n (dk dt_X12_lineAt 7 rfl) rfl ?_
    refine jz_iadd (dk dt_X12_lineAt 8 rfl) ?_
    obtain ⟨p_14, q_14, H⟩ := H
    refine jm_iald (dk dt_X12_lineAt 9 rfl) rfl rfl m p_14 q_14 ?_
    refine j_goto 29 (dk dt_X12_lineAt 10 rfl) (by decide) ?_
    exact j_el (T_X12_lineAt_29 (m.2.1.1 _ _) m   H) trivial
  · refine j_aload_n (dk dt_X12_lineAt 11 rfl) rfl ?_
    refine jm_getA (dk dt_X12_lineAt 12 rfl) fl_X12_19 rfl (c := 14) rfl m ?_
    refine j_bipush (v := Int32.ofInt 10) (dk dt_X12_lineAt 13 rfl) (by decide) ?_
    refine j_iload_n (dk dt_X12_lineAt 14 rfl) rfl ?_
    refine jz_imul (dk dt_X12_lineAt 15 rfl) ?_
    refine j_iload_n (dk dt_X12_lineAt 16 rfl) rfl ?_
    refine jz_iadd (dk dt_X12_lineAt 17 rfl) ?_
    obtain ⟨p_28, q_28, H⟩ := H
    refine jm_iald (dk dt_X12_lineAt 18 rfl) rfl rfl m p_28 q_28 ?_
    exact j_el (T_X12_lineAt_29 (m.2.1.1 _ _) m   H) trivial
def F_X12_linesOf_19  (s0 : Int) (u : Mu) (P : Int → Prop) : Prop :=
  P s0
theorem T_X12_linesOf_19  {s0 : Int} {u : Mu} {P : Int → Prop} {h : Hp} {g : Nat → Nat} (r_s0 : R32 s0) (m : Ms h g u)   (H : F_X12_linesOf_19 s0 u P) : J mX12_linesOf 1 0 0 (nx (QPI h P)) 19 [none, none, none] [ii (s0)] h := by
  unfold F_X12_linesOf_19 at H
  exact j_ireturn (dk dt_X12_linesOf 11 rfl) rfl rfl ⟨_, rfl, r_s0, rfl, H⟩
def F_X12_linesOf  (x1 : Int) (x2 : Int) (u : Mu) (P : Int → Prop) : Prop :=
  (if x2 = 0 then (0 ≤ x1 ∧ x1 < 122 ∧ F_X12_linesOf_19 (mI u 1 x1) u P) else (0 ≤ x1 ∧ x1 < 122 ∧ F_X12_linesOf_19 (mI u 2 x1) u P))
theorem T_X12_linesOf  {x1 : Int} {x2 : Int} {u : Mu} {P : Int → Prop} {h : Hp} {g : Nat → Nat} (r_x1 : R32 x1) (r_x2 : R32 x2) (m : Ms h g u)  (H : F_X12_linesOf x1 x2 u P) : Con mX12_linesOf 1 0 0 [vr (some (g 0)), ii (x1), ii (x2)] h (QPI h P) := by
  refine con_of rfl (Nat.le_of_ble_eq_true rfl) (by decide) ?_
  show J mX12_linesOf 1 0 0 _ 0 [some (vr (some (g 0))), some (ii (x1)), some (ii (x2))] [] h
  unfold F_X12_linesOf at H
  refine j_iload_n (dk dt_X12_linesOf 0 rfl) rfl ?_
  refine jz_if_ne 13 (dk dt_X12_linesOf 1 rfl) (by decide) r_x2 H (fun H => ?_) (fun H => ?_)
  · refine j_aload_n (dk dt_X12_linesOf 2 rfl) rfl ?_
    refine jm_getA (dk dt_X12_linesOf 3 rfl) fl_X12_7 rfl (c := 14) rfl m ?_
    refine j_iload_n (dk dt_X12_linesOf 4 rfl) rfl ?_
    obtain ⟨p_9, q_9, H⟩ := H
    refine jm_iald (dk dt_X12_linesOf 5 rfl) rfl rfl m p_9 q_9 ?_
    refine j_goto 19 (dk dt_X12_linesOf 6 rfl) (by decide) ?_
    exact j_el (T_X12_linesOf_19 (m.2.1.1 _ _) m   H) trivial
  · refine j_aload_n (dk dt_X12_linesOf 7 rfl) rfl ?_
    refine jm_getA (dk dt_X12_linesOf 8 rfl) fl_X12_13 rfl (c := 14) rfl m ?_
    refine j_iload_n (dk dt_X12_linesOf 9 rfl) rfl ?_
    obtain ⟨p_18, q_18, H⟩ := H
    refine jm_iald (dk dt_X12_linesOf 10 rfl) rfl rfl m p_18 q_18 ?_
    exact j_el (T_X12_linesOf_19 (m.2.1.1 _ _) m   H) trivial
def L_X12_placeOf_3  (x1 : Int) (x2 : Int) (x3 : Int) (x4 : Int) (u : Mu) (P : Int ⊕ ((Unit) ⊕ (Int)) → Prop) : Prop :=
  F_X12_linesOf x1 x2 u (fun x_8 => (if x_8 ≤ x4 then P (.inr (.inl ())) else F_X12_lineAt x1 x2 x4 u (fun x_19 => (if x_19 = x3 then P (.inr (.inr x4)) else P (.inl (w32 (x4 + 1)))))))
theorem U_X12_placeOf_3  {x1 : Int} {x2 : Int} {x3 : Int} {x4 : Int} {u : Mu} {P : Int ⊕ ((Unit) ⊕ (Int)) → Prop} {h : Hp} {g : Nat → Nat} {post : Option Sv ⊕ String → Hp → Prop} (r_x1 : R32 x1) (r_x2 : R32 x2) (r_x3 : R32 x3) (r_x4 : R32 x4) (m : Ms h g u)  (hl : ∀ (x4 : Int), P (.inl x4) → R32 x4 → J mX12_placeOf 2 0 0 post 3 [some (vr (some (g 0))), some (ii (x1)), some (ii (x2)), some (ii (x3)), some (ii (x4))] [] h) (he0 : P (.inr (.inl ())) → J mX12_placeOf 2 0 0 post 35 [none, none, none, none, none] [] h) (he1 : ∀ (x4 : Int), P (.inr (.inr x4)) → R32 x4 → J mX12_placeOf 2 0 0 post 26 [none, none, none, none, some (ii (x4))] [] h) (H : L_X12_placeOf_3 x1 x2 x3 x4 u P) : J mX12_placeOf 2 0 0 post 3 [some (vr (some (g 0))), some (ii (x1)), some (ii (x2)), some (ii (x3)), some (ii (x4))] [] h := by
  unfold L_X12_placeOf_3 at H
  refine j_iload (dk dt_X12_placeOf 2 rfl) rfl ?_
  refine j_aload_n (dk dt_X12_placeOf 3 rfl) rfl ?_
  refine j_iload_n (dk dt_X12_placeOf 4 rfl) rfl ?_
  refine j_iload_n (dk dt_X12_placeOf 5 rfl) rfl ?_
  refine jz_callV2 (dk dt_X12_placeOf 6 rfl) vl_X12_209 rfl (T_X12_linesOf r_x1 r_x2 m H) m.1.1 rfl (by decide) (Nat.zero_le _) (Nat.zero_le _) (Nat.le_of_ble_eq_true rfl) (fun v_8 h_8 P_8 => ?_)
  obtain ⟨x_8, rfl, r_8, rfl, H⟩ := P_8
  dsimp only [rs]
  refine jz_icmp_ge 35 (dk dt_X12_placeOf 7 rfl) (by decide) r_x4 r_8 H (fun H => ?_) (fun H => ?_)
  · exact j_el (he0  H ) trivial
  · refine j_aload_n (dk dt_X12_placeOf 8 rfl) rfl ?_
    refine j_iload_n (dk dt_X12_placeOf 9 rfl) rfl ?_
    refine j_iload_n (dk dt_X12_placeOf 10 rfl) rfl ?_
    refine j_iload (dk dt_X12_placeOf 11 rfl) rfl ?_
    refine jz_callV3 (dk dt_X12_placeOf 12 rfl) vl_X12_213 rfl (T_X12_lineAt r_x1 r_x2 r_x4 m H) m.1.1 rfl (by decide) (Nat.zero_le _) (Nat.zero_le _) (Nat.le_of_ble_eq_true rfl) (fun v_19 h_19 P_19 => ?_)
    obtain ⟨x_19, rfl, r_19, rfl, H⟩ := P_19
    dsimp only [rs]
    refine j_iload_n (dk dt_X12_placeOf 13 rfl) rfl ?_
    refine jz_icmp_ne 29 (dk dt_X12_placeOf 14 rfl) (by decide) r_19 r_x3 H (fun H => ?_) (fun H => ?_)
    · exact j_el (he1 _ H r_x4) (And.intro rfl trivial)
    · refine jz_iinc (dk dt_X12_placeOf 17 rfl) rfl ?_
      refine j_goto 3 (dk dt_X12_placeOf 18 rfl) (by decide) ?_
      exact j_el (hl _ H (r32_w _)) (And.intro rfl (And.intro rfl (And.intro rfl (And.intro rfl (And.intro rfl trivial)))))
def F_X12_placeOf_3  (x1 : Int) (x2 : Int) (x3 : Int) (x4 : Int) (u : Mu) (P : Int → Prop) : Prop :=
  lp (S := Int) (E := (Unit) ⊕ (Int)) (fun q P_ => L_X12_placeOf_3 x1 x2 x3 q u P_) x4 (fun e => match e with | (.inl _) => P (-1) | (.inr x4) => P x4)
theorem T_X12_placeOf_3  {x1 : Int} {x2 : Int} {x3 : Int} {x4 : Int} {u : Mu} {P : Int → Prop} {h : Hp} {g : Nat → Nat} (r_x1 : R32 x1) (r_x2 : R32 x2) (r_x3 : R32 x3) (r_x4 : R32 x4) (m : Ms h g u)   (H : F_X12_placeOf_3 x1 x2 x3 x4 u P) : J mX12_placeOf 2 0 0 (nx (QPI h P)) 3 [some (vr (some (g 0))), some (ii (x1)), some (ii (x2)), some (ii (x3)), some (ii (x4))] [] h := by
  unfold F_X12_placeOf_3 at H
  refine lp_J (G := fun q => R32 (q) → J mX12_placeOf 2 0 0 (nx (QPI h P)) 3 [some (vr (some (g 0))), some (ii (x1)), some (ii (x2)), some (ii (x3)), some (ii ((q)))] [] h) (fun x4 P_ hl_ he_ Hb => ?_) x4 H r_x4
  intro r_x4
  refine U_X12_placeOf_3 (P := P_) r_x1 r_x2 r_x3 r_x4 m  (fun x4 Hp r_x4 => hl_ x4 Hp r_x4) ?_ ?_ Hb
  · intro Hp
    have H := he_ _ Hp
    refine j_iconst (v := Int32.ofInt (-1)) (dk dt_X12_placeOf 19 rfl) (by decide) ?_
    exact j_ireturn (dk dt_X12_placeOf 20 rfl) rfl rfl ⟨_, rfl, (by decide), rfl, H⟩
  · intro x4 Hp r_x4
    have H := he_ _ Hp
    refine j_iload (dk dt_X12_placeOf 15 rfl) rfl ?_
    exact j_ireturn (dk dt_X12_placeOf 16 rfl) rfl rfl ⟨_, rfl, r_x4, rfl, H⟩
def F_X12_placeOf  (x1 : Int) (x2 : Int) (x3 : Int) (u : Mu) (P : Int → Prop) : Prop :=
  F_X12_placeOf_3 x1 x2 x3 0 u P
theorem T_X12_placeOf  {x1 : Int} {x2 : Int} {x3 : Int} {u : Mu} {P : Int → Prop} {h : Hp} {g : Nat → Nat} (r_x1 : R32 x1) (r_x2 : R32 x2) (r_x3 : R32 x3) (m : Ms h g u)  (H : F_X12_placeOf x1 x2 x3 u P) : Con mX12_placeOf 2 0 0 [vr (some (g 0)), ii (x1), ii (x2), ii (x3)] h (QPI h P) := by
  refine con_of rfl (Nat.le_of_ble_eq_true rfl) (by decide) ?_
  show J mX12_placeOf 2 0 0 _ 0 [some (vr (some (g 0))), some (ii (x1)), some (ii (x2)), some (ii (x3)), none] [] h
  unfold F_X12_placeOf at H
  refine j_iconst (v := Int32.ofInt 0) (dk dt_X12_placeOf 0 rfl) (by decide) ?_
  refine j_istore (dk dt_X12_placeOf 1 rfl) (by decide) ?_
  exact j_el (T_X12_placeOf_3 r_x1 r_x2 r_x3 (by decide) m   H) (And.intro rfl (And.intro rfl (And.intro rfl (And.intro rfl (And.intro rfl trivial)))))
def F_X12_sheetOf_19  (s0 : Int) (u : Mu) (P : Int → Prop) : Prop :=
  P s0
theorem T_X12_sheetOf_19  {s0 : Int} {u : Mu} {P : Int → Prop} {h : Hp} {g : Nat → Nat} (r_s0 : R32 s0) (m : Ms h g u)   (H : F_X12_sheetOf_19 s0 u P) : J mX12_sheetOf 1 0 0 (nx (QPI h P)) 19 [none, none, none] [ii (s0)] h := by
  unfold F_X12_sheetOf_19 at H
  exact j_ireturn (dk dt_X12_sheetOf 11 rfl) rfl rfl ⟨_, rfl, r_s0, rfl, H⟩
def F_X12_sheetOf  (x1 : Int) (x2 : Int) (u : Mu) (P : Int → Prop) : Prop :=
  (0 ≤ x1 ∧ x1 < 60420 ∧ (if 0 ≤ mI u 37 x1 then F_X12_sheetOf_19 (mI u 37 x1) u P else F_X12_sheetOf_19 x2 u P))
theorem T_X12_sheetOf  {x1 : Int} {x2 : Int} {u : Mu} {P : Int → Prop} {h : Hp} {g : Nat → Nat} (r_x1 : R32 x1) (r_x2 : R32 x2) (m : Ms h g u)  (H : F_X12_sheetOf x1 x2 u P) : Con mX12_sheetOf 1 0 0 [vr (some (g 0)), ii (x1), ii (x2)] h (QPI h P) := by
  refine con_of rfl (Nat.le_of_ble_eq_true rfl) (by decide) ?_
  show J mX12_sheetOf 1 0 0 _ 0 [some (vr (some (g 0))), some (ii (x1)), some (ii (x2))] [] h
  unfold F_X12_sheetOf at H
  refine j_aload_n (dk dt_X12_sheetOf 0 rfl) rfl ?_
  refine jm_getA (dk dt_X12_sheetOf 1 rfl) fl_X12_100 rfl (c := 14) rfl m ?_
  refine j_iload_n (dk dt_X12_sheetOf 2 rfl) rfl ?_
  obtain ⟨p_5, q_5, H⟩ := H
  refine jm_iald (dk dt_X12_sheetOf 3 rfl) rfl rfl m p_5 q_5 ?_
  refine jz_if_ge 13 (dk dt_X12_sheetOf 4 rfl) (by decide) (m.2.1.1 _ _) H (fun H => ?_) (fun H => ?_)
  · refine j_aload_n (dk dt_X12_sheetOf 7 rfl) rfl ?_
    refine jm_getA (dk dt_X12_sheetOf 8 rfl) fl_X12_100 rfl (c := 14) rfl m ?_
    refine j_iload_n (dk dt_X12_sheetOf 9 rfl) rfl ?_
    refine jm_iald (dk dt_X12_sheetOf 10 rfl) rfl rfl m p_5 q_5 ?_
    exact j_el (T_X12_sheetOf_19 (m.2.1.1 _ _) m   H) trivial
  · refine j_iload_n (dk dt_X12_sheetOf 5 rfl) rfl ?_
    refine j_goto 19 (dk dt_X12_sheetOf 6 rfl) (by decide) ?_
    exact j_el (T_X12_sheetOf_19 r_x2 m   H) trivial
def F_X12_area_150  (s0 : Int) (u : Mu) (P : Int → Mu → Prop) : Prop :=
  (Z1 s0 ∧ P s0 u)
theorem T_X12_area_150  {s0 : Int} {u : Mu} {P : Int → Mu → Prop} {h : Hp} {g : Nat → Nat} (r_s0 : R32 s0) (m : Ms h g u)   (H : F_X12_area_150 s0 u P) : J mX12_area 3 0 0 (nx (QMI g P)) 150 [none, none, none, none, none, none, none, none] [ii (s0)] h := by
  unfold F_X12_area_150 at H
  obtain ⟨hz_, H⟩ := H
  exact j_ireturn (dk dt_X12_area 83 rfl) rfl (nar_z hz_) ⟨_, _, rfl, r_s0, m, H⟩
def F_X12_area_149  (u : Mu) (P : Int → Mu → Prop) : Prop :=
  F_X12_area_150 0 u P
theorem T_X12_area_149  {u : Mu} {P : Int → Mu → Prop} {h : Hp} {g : Nat → Nat}  (m : Ms h g u)   (H : F_X12_area_149 u P) : J mX12_area 3 0 0 (nx (QMI g P)) 149 [none, none, none, none, none, none, none, none] [] h := by
  unfold F_X12_area_149 at H
  refine j_iconst (v := Int32.ofInt 0) (dk dt_X12_area 82 rfl) (by decide) ?_
  exact j_el (T_X12_area_150 (by decide) m   H) trivial
def F_X12_area  (x1 : Int) (x2 : Int) (u : Mu) (P : Int → Mu → Prop) : Prop :=
  (0 ≤ x1 ∧ x1 < 60420 ∧ (if mI u 26 x1 = 6 then F_X12_sheetOf x1 x2 u (fun x_16 => (0 ≤ x1 ∧ x1 < 60420 ∧ F_X12_placeOf x_16 0 (mI u 32 x1) u (fun x_29 => (0 ≤ x1 ∧ x1 < 60420 ∧ F_X12_placeOf x_16 1 (mI u 33 x1) u (fun x_43 => (0 ≤ x1 ∧ x1 < 60420 ∧ F_X12_placeOf x_16 0 (mI u 34 x1) u (fun x_57 => (0 ≤ x1 ∧ x1 < 60420 ∧ F_X12_placeOf x_16 1 (mI u 35 x1) u (fun x_71 => (∀ u_78, u_78 = uI u 0 71 x_16 → F_X12_least x_29 x_57 (fun x_86 => (∀ u_89, u_89 = uI u_78 0 72 x_86 → F_X12_most x_29 x_57 (fun x_97 => (∀ u_100, u_100 = uI u_89 0 73 x_97 → F_X12_least x_43 x_71 (fun x_108 => (∀ u_111, u_111 = uI u_100 0 74 x_108 → F_X12_most x_43 x_71 (fun x_119 => (∀ u_122, u_122 = uI u_111 0 75 x_119 → (if x_29 < 0 then F_X12_area_149 u_122 P else (if x_43 < 0 then F_X12_area_149 u_122 P else (if x_57 < 0 then F_X12_area_149 u_122 P else (if x_71 < 0 then F_X12_area_149 u_122 P else F_X12_area_150 1 u_122 P)))))))))))))))))))))) else P 0 u))
theorem T_X12_area  {x1 : Int} {x2 : Int} {u : Mu} {P : Int → Mu → Prop} {h : Hp} {g : Nat → Nat} (r_x1 : R32 x1) (r_x2 : R32 x2) (m : Ms h g u)  (H : F_X12_area x1 x2 u P) : Con mX12_area 3 0 0 [vr (some (g 0)), ii (x1), ii (x2)] h (QMI g P) := by
  refine con_of rfl (Nat.le_of_ble_eq_true rfl) (by decide) ?_
  show J mX12_area 3 0 0 _ 0 [some (vr (some (g 0))), some (ii (x1)), some (ii (x2)), none, none, none, none, none] [] h
  unfold F_X12_area at H
  refine j_aload_n (dk dt_X12_area 0 rfl) rfl ?_
  refine jm_getA (dk dt_X12_area 1 rfl) fl_X12_67 rfl (c := 14) rfl m ?_
  refine j_iload_n (dk dt_X12_area 2 rfl) rfl ?_
  obtain ⟨p_5, q_5, H⟩ := H
  refine jm_iald (dk dt_X12_area 3 rfl) rfl rfl m p_5 q_5 ?_
  refine j_bipush (v := Int32.ofInt 6) (dk dt_X12_area 4 rfl) (by decide) ?_
  refine jz_icmp_eq 13 (dk dt_X12_area 5 rfl) (by decide) (m.2.1.1 _ _) (by decide) H (fun H => ?_) (fun H => ?_)
  · refine j_aload_n (dk dt_X12_area 8 rfl) rfl ?_
    refine j_iload_n (dk dt_X12_area 9 rfl) rfl ?_
    refine j_iload_n (dk dt_X12_area 10 rfl) rfl ?_
    refine jz_callV2 (dk dt_X12_area 11 rfl) vl_X12_558 rfl (T_X12_sheetOf r_x1 r_x2 m H) m.1.1 rfl (by decide) (Nat.zero_le _) (Nat.zero_le _) (Nat.le_of_ble_eq_true rfl) (fun v_16 h_16 P_16 => ?_)
    obtain ⟨x_16, rfl, r_16, rfl, H⟩ := P_16
    dsimp only [rs]
    refine j_istore_n (dk dt_X12_area 12 rfl) (by decide) ?_
    refine j_aload_n (dk dt_X12_area 13 rfl) rfl ?_
    refine j_iload_n (dk dt_X12_area 14 rfl) rfl ?_
    refine j_iconst (v := Int32.ofInt 0) (dk dt_X12_area 15 rfl) (by decide) ?_
    refine j_aload_n (dk dt_X12_area 16 rfl) rfl ?_
    refine jm_getA (dk dt_X12_area 17 rfl) fl_X12_85 rfl (c := 14) rfl m ?_
    refine j_iload_n (dk dt_X12_area 18 rfl) rfl ?_
    obtain ⟨p_28, q_28, H⟩ := H
    refine jm_iald (dk dt_X12_area 19 rfl) rfl rfl m p_28 q_28 ?_
    refine jz_callV3 (dk dt_X12_area 20 rfl) vl_X12_217 rfl (T_X12_placeOf r_16 (by decide) (m.2.1.1 _ _) m H) m.1.1 rfl (by decide) (Nat.zero_le _) (Nat.zero_le _) (Nat.le_of_ble_eq_true rfl) (fun v_29 h_29 P_29 => ?_)
    obtain ⟨x_29, rfl, r_29, rfl, H⟩ := P_29
    dsimp only [rs]
    refine j_istore (dk dt_X12_area 21 rfl) (by decide) ?_
    refine j_aload_n (dk dt_X12_area 22 rfl) rfl ?_
    refine j_iload_n (dk dt_X12_area 23 rfl) rfl ?_
    refine j_iconst (v := Int32.ofInt 1) (dk dt_X12_area 24 rfl) (by decide) ?_
    refine j_aload_n (dk dt_X12_area 25 rfl) rfl ?_
    refine jm_getA (dk dt_X12_area 26 rfl) fl_X12_88 rfl (c := 14) rfl m ?_
    refine j_iload_n (dk dt_X12_area 27 rfl) rfl ?_
    obtain ⟨p_42, q_42, H⟩ := H
    refine jm_iald (dk dt_X12_area 28 rfl) rfl rfl m p_42 q_42 ?_
    refine jz_callV3 (dk dt_X12_area 29 rfl) vl_X12_217 rfl (T_X12_placeOf r_16 (by decide) (m.2.1.1 _ _) m H) m.1.1 rfl (by decide) (Nat.zero_le _) (Nat.zero_le _) (Nat.le_of_ble_eq_true rfl) (fun v_43 h_43 P_43 => ?_)
    obtain ⟨x_43, rfl, r_43, rfl, H⟩ := P_43
    dsimp only [rs]
    refine j_istore (dk dt_X12_area 30 rfl) (by decide) ?_
    refine j_aload_n (dk dt_X12_area 31 rfl) rfl ?_
    refine j_iload_n (dk dt_X12_area 32 rfl) rfl ?_
    refine j_iconst (v := Int32.ofInt 0) (dk dt_X12_area 33 rfl) (by decide) ?_
    refine j_aload_n (dk dt_X12_area 34 rfl) rfl ?_
    refine jm_getA (dk dt_X12_area 35 rfl) fl_X12_91 rfl (c := 14) rfl m ?_
    refine j_iload_n (dk dt_X12_area 36 rfl) rfl ?_
    obtain ⟨p_56, q_56, H⟩ := H
    refine jm_iald (dk dt_X12_area 37 rfl) rfl rfl m p_56 q_56 ?_
    refine jz_callV3 (dk dt_X12_area 38 rfl) vl_X12_217 rfl (T_X12_placeOf r_16 (by decide) (m.2.1.1 _ _) m H) m.1.1 rfl (by decide) (Nat.zero_le _) (Nat.zero_le _) (Nat.le_of_ble_eq_true rfl) (fun v_57 h_57 P_57 => ?_)
    obtain ⟨x_57, rfl, r_57, rfl, H⟩ := P_57
    dsimp only [rs]
    refine j_istore (dk dt_X12_area 39 rfl) (by decide) ?_
    refine j_aload_n (dk dt_X12_area 40 rfl) rfl ?_
    refine j_iload_n (dk dt_X12_area 41 rfl) rfl ?_
    refine j_iconst (v := Int32.ofInt 1) (dk dt_X12_area 42 rfl) (by decide) ?_
    refine j_aload_n (dk dt_X12_area 43 rfl) rfl ?_
    refine jm_getA (dk dt_X12_area 44 rfl) fl_X12_94 rfl (c := 14) rfl m ?_
    refine j_iload_n (dk dt_X12_area 45 rfl) rfl ?_
    obtain ⟨p_70, q_70, H⟩ := H
    refine jm_iald (dk dt_X12_area 46 rfl) rfl rfl m p_70 q_70 ?_
    refine jz_callV3 (dk dt_X12_area 47 rfl) vl_X12_217 rfl (T_X12_placeOf r_16 (by decide) (m.2.1.1 _ _) m H) m.1.1 rfl (by decide) (Nat.zero_le _) (Nat.zero_le _) (Nat.le_of_ble_eq_true rfl) (fun v_71 h_71 P_71 => ?_)
    obtain ⟨x_71, rfl, r_71, rfl, H⟩ := P_71
    dsimp only [rs]
    refine j_istore (dk dt_X12_area 48 rfl) (by decide) ?_
    refine j_aload_n (dk dt_X12_area 49 rfl) rfl ?_
    refine j_iload_n (dk dt_X12_area 50 rfl) rfl ?_
    refine jm_putI (kz := 71) (dk dt_X12_area 51 rfl) fl_X12_561 rfl rfl rfl rfl m r_16 (fun h_78 m_78 => ?_)
    replace H := H _ rfl
    refine j_aload_n (dk dt_X12_area 52 rfl) rfl ?_
    refine j_iload (dk dt_X12_area 53 rfl) rfl ?_
    refine j_iload (dk dt_X12_area 54 rfl) rfl ?_
    refine j_callS2 (dk dt_X12_area 55 rfl) sl_X12_564 (T_X12_least r_29 r_57 H) rfl (by decide) (Nat.zero_le _) (Nat.zero_le _) (Nat.le_of_ble_eq_true rfl) (fun v_86 h_86 P_86 => ?_)
    obtain ⟨x_86, rfl, r_86, rfl, H⟩ := P_86
    dsimp only [rs]
    refine jm_putI (kz := 72) (dk dt_X12_area 56 rfl) fl_X12_567 rfl rfl rfl rfl m_78 r_86 (fun h_89 m_89 => ?_)
    replace H := H _ rfl
    refine j_aload_n (dk dt_X12_area 57 rfl) rfl ?_
    refine j_iload (dk dt_X12_area 58 rfl) rfl ?_
    refine j_iload (dk dt_X12_area 59 rfl) rfl ?_
    refine j_callS2 (dk dt_X12_area 60 rfl) sl_X12_570 (T_X12_most r_29 r_57 H) rfl (by decide) (Nat.zero_le _) (Nat.zero_le _) (Nat.le_of_ble_eq_true rfl) (fun v_97 h_97 P_97 => ?_)
    obtain ⟨x_97, rfl, r_97, rfl, H⟩ := P_97
    dsimp only [rs]
    refine jm_putI (kz := 73) (dk dt_X12_area 61 rfl) fl_X12_573 rfl rfl rfl rfl m_89 r_97 (fun h_100 m_100 => ?_)
    replace H := H _ rfl
    refine j_aload_n (dk dt_X12_area 62 rfl) rfl ?_
    refine j_iload (dk dt_X12_area 63 rfl) rfl ?_
    refine j_iload (dk dt_X12_area 64 rfl) rfl ?_
    refine j_callS2 (dk dt_X12_area 65 rfl) sl_X12_564 (T_X12_least r_43 r_71 H) rfl (by decide) (Nat.zero_le _) (Nat.zero_le _) (Nat.le_of_ble_eq_true rfl) (fun v_108 h_108 P_108 => ?_)
    obtain ⟨x_108, rfl, r_108, rfl, H⟩ := P_108
    dsimp only [rs]
    refine jm_putI (kz := 74) (dk dt_X12_area 66 rfl) fl_X12_576 rfl rfl rfl rfl m_100 r_108 (fun h_111 m_111 => ?_)
    replace H := H _ rfl
    refine j_aload_n (dk dt_X12_area 67 rfl) rfl ?_
    refine j_iload (dk dt_X12_area 68 rfl) rfl ?_
    refine j_iload (dk dt_X12_area 69 rfl) rfl ?_
    refine j_callS2 (dk dt_X12_area 70 rfl) sl_X12_570 (T_X12_most r_43 r_71 H) rfl (by decide) (Nat.zero_le _) (Nat.zero_le _) (Nat.le_of_ble_eq_true rfl) (fun v_119 h_119 P_119 => ?_)
    obtain ⟨x_119, rfl, r_119, rfl, H⟩ := P_119
    dsimp only [rs]
    refine jm_putI (kz := 75) (dk dt_X12_area 71 rfl) fl_X12_579 rfl rfl rfl rfl m_111 r_119 (fun h_122 m_122 => ?_)
    replace H := H _ rfl
    refine j_iload (dk dt_X12_area 72 rfl) rfl ?_
    refine jz_if_lt 149 (dk dt_X12_area 73 rfl) (by decide) r_29 H (fun H => ?_) (fun H => ?_)
    · exact j_el (T_X12_area_149  m_122   H) trivial
    · refine j_iload (dk dt_X12_area 74 rfl) rfl ?_
      refine jz_if_lt 149 (dk dt_X12_area 75 rfl) (by decide) r_43 H (fun H => ?_) (fun H => ?_)
      · exact j_el (T_X12_area_149  m_122   H) trivial
      · refine j_iload (dk dt_X12_area 76 rfl) rfl ?_
        refine jz_if_lt 149 (dk dt_X12_area 77 rfl) (by decide) r_57 H (fun H => ?_) (fun H => ?_)
        · exact j_el (T_X12_area_149  m_122   H) trivial
        · refine j_iload (dk dt_X12_area 78 rfl) rfl ?_
          refine jz_if_lt 149 (dk dt_X12_area 79 rfl) (by decide) r_71 H (fun H => ?_) (fun H => ?_)
          · exact j_el (T_X12_area_149  m_122   H) trivial
          · refine j_iconst (v := Int32.ofInt 1) (dk dt_X12_area 80 rfl) (by decide) ?_
            refine j_goto 150 (dk dt_X12_area 81 rfl) (by decide) ?_
            exact j_el (T_X12_area_150 (by decide) m_122   H) trivial
  · refine j_iconst (v := Int32.ofInt 0) (dk dt_X12_area 6 rfl) (by decide) ?_
    exact j_ireturn (dk dt_X12_area 7 rfl) rfl (nar_z (by decide)) ⟨_, _, rfl, (by decide), m, H⟩
def F_X12_areaCell  (x1 : Int) (u : Mu) (P : Int → Prop) : Prop :=
  (¬ w32 (w32 ((mI u 0 75) - (mI u 0 74)) + 1) = 0 ∧ (¬ w32 (w32 ((mI u 0 75) - (mI u 0 74)) + 1) = 0 ∧ P (w32 (w32 (w32 (w32 (320 * (mI u 0 71)) + (w32 (10 * (w32 (mI u 0 72 + (w32 (Int.tdiv x1 (w32 (w32 ((mI u 0 75) - (mI u 0 74)) + 1))))))))) + (mI u 0 74)) + (w32 (Int.tmod x1 (w32 (w32 ((mI u 0 75) - (mI u 0 74)) + 1))))))))
theorem T_X12_areaCell  {x1 : Int} {u : Mu} {P : Int → Prop} {h : Hp} {g : Nat → Nat} (r_x1 : R32 x1) (m : Ms h g u)  (H : F_X12_areaCell x1 u P) : Con mX12_areaCell 1 0 0 [vr (some (g 0)), ii (x1)] h (QPI h P) := by
  refine con_of rfl (Nat.le_of_ble_eq_true rfl) (by decide) ?_
  show J mX12_areaCell 1 0 0 _ 0 [some (vr (some (g 0))), some (ii (x1)), none] [] h
  unfold F_X12_areaCell at H
  refine j_aload_n (dk dt_X12_areaCell 0 rfl) rfl ?_
  refine jm_getI (kz := 75) (dk dt_X12_areaCell 1 rfl) fl_X12_579 rfl rfl m ?_
  refine j_aload_n (dk dt_X12_areaCell 2 rfl) rfl ?_
  refine jm_getI (kz := 74) (dk dt_X12_areaCell 3 rfl) fl_X12_576 rfl rfl m ?_
  refine jz_isub (dk dt_X12_areaCell 4 rfl) ?_
  refine j_iconst (v := Int32.ofInt 1) (dk dt_X12_areaCell 5 rfl) (by decide) ?_
  refine jz_iadd (dk dt_X12_areaCell 6 rfl) ?_
  refine j_istore_n (dk dt_X12_areaCell 7 rfl) (by decide) ?_
  refine j_sipush (v := Int32.ofInt 320) (dk dt_X12_areaCell 8 rfl) (by decide) ?_
  refine j_aload_n (dk dt_X12_areaCell 9 rfl) rfl ?_
  refine jm_getI (kz := 71) (dk dt_X12_areaCell 10 rfl) fl_X12_561 rfl rfl m ?_
  refine jz_imul (dk dt_X12_areaCell 11 rfl) ?_
  refine j_bipush (v := Int32.ofInt 10) (dk dt_X12_areaCell 12 rfl) (by decide) ?_
  refine j_aload_n (dk dt_X12_areaCell 13 rfl) rfl ?_
  refine jm_getI (kz := 72) (dk dt_X12_areaCell 14 rfl) fl_X12_567 rfl rfl m ?_
  refine j_iload_n (dk dt_X12_areaCell 15 rfl) rfl ?_
  refine j_iload_n (dk dt_X12_areaCell 16 rfl) rfl ?_
  obtain ⟨n_28, H⟩ := H
  refine jz_idiv (dk dt_X12_areaCell 17 rfl) r_x1 (r32_w _) n_28 ?_
  refine jz_iadd (dk dt_X12_areaCell 18 rfl) ?_
  refine jz_imul (dk dt_X12_areaCell 19 rfl) ?_
  refine jz_iadd (dk dt_X12_areaCell 20 rfl) ?_
  refine j_aload_n (dk dt_X12_areaCell 21 rfl) rfl ?_
  refine jm_getI (kz := 74) (dk dt_X12_areaCell 22 rfl) fl_X12_576 rfl rfl m ?_
  refine jz_iadd (dk dt_X12_areaCell 23 rfl) ?_
  refine j_iload_n (dk dt_X12_areaCell 24 rfl) rfl ?_
  refine j_iload_n (dk dt_X12_areaCell 25 rfl) rfl ?_
  obtain ⟨n_39, H⟩ := H
  refine jz_irem (dk dt_X12_areaCell 26 rfl) r_x1 (r32_w _) n_39 ?_
  refine jz_iadd (dk dt_X12_areaCell 27 rfl) ?_
  exact j_ireturn (dk dt_X12_areaCell 28 rfl) rfl rfl ⟨_, rfl, (r32_w _), rfl, H⟩
def F_X12_areaSize  (u : Mu) (P : Int → Prop) : Prop :=
  P (w32 ((w32 (w32 ((mI u 0 73) - (mI u 0 72)) + 1)) * (w32 (w32 ((mI u 0 75) - (mI u 0 74)) + 1))))
theorem T_X12_areaSize  {u : Mu} {P : Int → Prop} {h : Hp} {g : Nat → Nat}  (m : Ms h g u)  (H : F_X12_areaSize u P) : Con mX12_areaSize 1 0 0 [vr (some (g 0))] h (QPI h P) := by
  refine con_of rfl (Nat.le_of_ble_eq_true rfl) (by decide) ?_
  show J mX12_areaSize 1 0 0 _ 0 [some (vr (some (g 0)))] [] h
  unfold F_X12_areaSize at H
  refine j_aload_n (dk dt_X12_areaSize 0 rfl) rfl ?_
  refine jm_getI (kz := 73) (dk dt_X12_areaSize 1 rfl) fl_X12_573 rfl rfl m ?_
  refine j_aload_n (dk dt_X12_areaSize 2 rfl) rfl ?_
  refine jm_getI (kz := 72) (dk dt_X12_areaSize 3 rfl) fl_X12_567 rfl rfl m ?_
  refine jz_isub (dk dt_X12_areaSize 4 rfl) ?_
  refine j_iconst (v := Int32.ofInt 1) (dk dt_X12_areaSize 5 rfl) (by decide) ?_
  refine jz_iadd (dk dt_X12_areaSize 6 rfl) ?_
  refine j_aload_n (dk dt_X12_areaSize 7 rfl) rfl ?_
  refine jm_getI (kz := 75) (dk dt_X12_areaSize 8 rfl) fl_X12_579 rfl rfl m ?_
  refine j_aload_n (dk dt_X12_areaSize 9 rfl) rfl ?_
  refine jm_getI (kz := 74) (dk dt_X12_areaSize 10 rfl) fl_X12_576 rfl rfl m ?_
  refine jz_isub (dk dt_X12_areaSize 11 rfl) ?_
  refine j_iconst (v := Int32.ofInt 1) (dk dt_X12_areaSize 12 rfl) (by decide) ?_
  refine jz_iadd (dk dt_X12_areaSize 13 rfl) ?_
  refine jz_imul (dk dt_X12_areaSize 14 rfl) ?_
  exact j_ireturn (dk dt_X12_areaSize 15 rfl) rfl rfl ⟨_, rfl, (r32_w _), rfl, H⟩
def F_X12_number_56  (s1 : Int) (s2 : Int) (u : Mu) (P : Mu → Prop) : Prop :=
  (0 ≤ s1 ∧ s1 < 200 ∧ (∀ u_56, u_56 = uG u 67 s1 s2 → P u_56))
theorem T_X12_number_56  {s1 : Int} {s2 : Int} {u : Mu} {P : Mu → Prop} {h : Hp} {g : Nat → Nat} (r_s1 : R32 s1) (r_s2 : R64 s2) (m : Ms h g u)   (H : F_X12_number_56 s1 s2 u P) : J mX12_number 1 0 0 (nx (QMV g P)) 56 [none, none, none, none, none] [ll (s2), ii (s1), vr (some (g (67)))] h := by
  unfold F_X12_number_56 at H
  obtain ⟨p_56, q_56, H⟩ := H
  refine jm_last (dk dt_X12_number 29 rfl) rfl rfl m p_56 q_56 r_s2 (fun h_56 m_56 => ?_)
  replace H := H _ rfl
  exact j_return (dk dt_X12_number 30 rfl) rfl ⟨_, rfl, m_56, H⟩
def F_X12_number_38  (x1 : Int) (x2 : Int) (x4 : Int) (s1 : Int) (s2 : Int) (u : Mu) (P : Mu → Prop) : Prop :=
  (0 ≤ s1 ∧ s1 < 200 ∧ (∀ u_38, u_38 = uI u 66 s1 s2 → (if x4 = 0 then F_X12_number_56 x1 x2 u_38 P else F_X12_number_56 x1 4 u_38 P)))
theorem T_X12_number_38  {x1 : Int} {x2 : Int} {x4 : Int} {s1 : Int} {s2 : Int} {u : Mu} {P : Mu → Prop} {h : Hp} {g : Nat → Nat} (r_x1 : R32 x1) (r_x2 : R64 x2) (r_x4 : R32 x4) (r_s1 : R32 s1) (r_s2 : R32 s2) (m : Ms h g u)   (H : F_X12_number_38 x1 x2 x4 s1 s2 u P) : J mX12_number 1 0 0 (nx (QMV g P)) 38 [some (vr (some (g 0))), some (ii (x1)), some (ll (x2)), none, some (ii (x4))] [ii (s2), ii (s1), vr (some (g (66)))] h := by
  unfold F_X12_number_38 at H
  obtain ⟨p_38, q_38, H⟩ := H
  refine jm_iast (dk dt_X12_number 20 rfl) rfl rfl m p_38 q_38 r_s2 (fun h_38 m_38 => ?_)
  replace H := H _ rfl
  refine j_aload_n (dk dt_X12_number 21 rfl) rfl ?_
  refine jm_getA (dk dt_X12_number 22 rfl) fl_X12_129 rfl (c := 15) rfl m_38 ?_
  refine j_iload_n (dk dt_X12_number 23 rfl) rfl ?_
  refine j_iload (dk dt_X12_number 24 rfl) rfl ?_
  refine jz_if_eq 55 (dk dt_X12_number 25 rfl) (by decide) r_x4 H (fun H => ?_) (fun H => ?_)
  · refine j_lload_n (dk dt_X12_number 28 rfl) rfl ?_
    exact j_el (T_X12_number_56 r_x1 r_x2 m_38   H) trivial
  · refine j_ldc2 (v := Int64.ofInt (4)) (dk dt_X12_number 26 rfl) (by exact kl_X12_531) ?_
    refine j_goto 56 (dk dt_X12_number 27 rfl) (by decide) ?_
    exact j_el (T_X12_number_56 r_x1 (by decide) m_38   H) trivial
def F_X12_number_21  (x1 : Int) (x2 : Int) (s0 : Int) (u : Mu) (P : Mu → Prop) : Prop :=
  (if s0 = 0 then F_X12_number_38 x1 x2 s0 x1 1 u P else F_X12_number_38 x1 x2 s0 x1 4 u P)
theorem T_X12_number_21  {x1 : Int} {x2 : Int} {s0 : Int} {u : Mu} {P : Mu → Prop} {h : Hp} {g : Nat → Nat} (r_x1 : R32 x1) (r_x2 : R64 x2) (r_s0 : R32 s0) (m : Ms h g u)   (H : F_X12_number_21 x1 x2 s0 u P) : J mX12_number 1 0 0 (nx (QMV g P)) 21 [some (vr (some (g 0))), some (ii (x1)), some (ll (x2)), none, none] [ii (s0)] h := by
  unfold F_X12_number_21 at H
  refine j_istore (dk dt_X12_number 11 rfl) (by decide) ?_
  refine j_aload_n (dk dt_X12_number 12 rfl) rfl ?_
  refine jm_getA (dk dt_X12_number 13 rfl) fl_X12_126 rfl (c := 14) rfl m ?_
  refine j_iload_n (dk dt_X12_number 14 rfl) rfl ?_
  refine j_iload (dk dt_X12_number 15 rfl) rfl ?_
  refine jz_if_eq 37 (dk dt_X12_number 16 rfl) (by decide) r_s0 H (fun H => ?_) (fun H => ?_)
  · refine j_iconst (v := Int32.ofInt 1) (dk dt_X12_number 19 rfl) (by decide) ?_
    exact j_el (T_X12_number_38 r_x1 r_x2 r_s0 r_x1 (by decide) m   H) (And.intro rfl (And.intro rfl (And.intro rfl (And.intro rfl trivial))))
  · refine j_iconst (v := Int32.ofInt 4) (dk dt_X12_number 17 rfl) (by decide) ?_
    refine j_goto 38 (dk dt_X12_number 18 rfl) (by decide) ?_
    exact j_el (T_X12_number_38 r_x1 r_x2 r_s0 r_x1 (by decide) m   H) (And.intro rfl (And.intro rfl (And.intro rfl (And.intro rfl trivial))))
def F_X12_number_16  (x1 : Int) (x2 : Int) (u : Mu) (P : Mu → Prop) : Prop :=
  F_X12_number_21 x1 x2 1 u P
theorem T_X12_number_16  {x1 : Int} {x2 : Int} {u : Mu} {P : Mu → Prop} {h : Hp} {g : Nat → Nat} (r_x1 : R32 x1) (r_x2 : R64 x2) (m : Ms h g u)   (H : F_X12_number_16 x1 x2 u P) : J mX12_number 1 0 0 (nx (QMV g P)) 16 [some (vr (some (g 0))), some (ii (x1)), some (ll (x2)), none, none] [] h := by
  unfold F_X12_number_16 at H
  refine j_iconst (v := Int32.ofInt 1) (dk dt_X12_number 8 rfl) (by decide) ?_
  refine j_goto 21 (dk dt_X12_number 9 rfl) (by decide) ?_
  exact j_el (T_X12_number_21 r_x1 r_x2 (by decide) m   H) (And.intro rfl (And.intro rfl (And.intro rfl trivial)))
def F_X12_number  (x1 : Int) (x2 : Int) (u : Mu) (P : Mu → Prop) : Prop :=
  (if 1000000000000000 < x2 then F_X12_number_16 x1 x2 u P else (if (-1000000000000000) ≤ x2 then F_X12_number_21 x1 x2 0 u P else F_X12_number_16 x1 x2 u P))
theorem T_X12_number  {x1 : Int} {x2 : Int} {u : Mu} {P : Mu → Prop} {h : Hp} {g : Nat → Nat} (r_x1 : R32 x1) (r_x2 : R64 x2) (m : Ms h g u)  (H : F_X12_number x1 x2 u P) : Con mX12_number 1 0 0 [vr (some (g 0)), ii (x1), ll (x2)] h (QMV g P) := by
  refine con_of rfl (Nat.le_of_ble_eq_true rfl) (by decide) ?_
  show J mX12_number 1 0 0 _ 0 [some (vr (some (g 0))), some (ii (x1)), some (ll (x2)), none, none] [] h
  unfold F_X12_number at H
  refine j_lload_n (dk dt_X12_number 0 rfl) rfl ?_
  refine j_ldc2 (v := Int64.ofInt (1000000000000000)) (dk dt_X12_number 1 rfl) (by exact kl_X12_527) ?_
  refine jz_lcmp (dk dt_X12_number 2 rfl) r_x2 (by decide) ?_
  refine jz_lif_gt 16 (dk dt_X12_number 3 rfl) (by decide) H (fun H => ?_) (fun H => ?_)
  · exact j_el (T_X12_number_16 r_x1 r_x2 m   H) (And.intro rfl (And.intro rfl (And.intro rfl trivial)))
  · refine j_lload_n (dk dt_X12_number 4 rfl) rfl ?_
    refine j_ldc2 (v := Int64.ofInt (-1000000000000000)) (dk dt_X12_number 5 rfl) (by exact kl_X12_529) ?_
    refine jz_lcmp (dk dt_X12_number 6 rfl) r_x2 (by decide) ?_
    refine jz_lif_ge 20 (dk dt_X12_number 7 rfl) (by decide) H (fun H => ?_) (fun H => ?_)
    · refine j_iconst (v := Int32.ofInt 0) (dk dt_X12_number 10 rfl) (by decide) ?_
      exact j_el (T_X12_number_21 r_x1 r_x2 (by decide) m   H) (And.intro rfl (And.intro rfl (And.intro rfl trivial)))
    · exact j_el (T_X12_number_16 r_x1 r_x2 m   H) (And.intro rfl (And.intro rfl (And.intro rfl trivial)))
def F_X12_truth_21  (s1 : Int) (s2 : Int) (u : Mu) (P : Mu → Prop) : Prop :=
  (0 ≤ s1 ∧ s1 < 200 ∧ (∀ u_21, u_21 = uG u 67 s1 s2 → P u_21))
theorem T_X12_truth_21  {s1 : Int} {s2 : Int} {u : Mu} {P : Mu → Prop} {h : Hp} {g : Nat → Nat} (r_s1 : R32 s1) (r_s2 : R64 s2) (m : Ms h g u)   (H : F_X12_truth_21 s1 s2 u P) : J mX12_truth 1 0 0 (nx (QMV g P)) 21 [none, none, none] [ll (s2), ii (s1), vr (some (g (67)))] h := by
  unfold F_X12_truth_21 at H
  obtain ⟨p_21, q_21, H⟩ := H
  refine jm_last (dk dt_X12_truth 13 rfl) rfl rfl m p_21 q_21 r_s2 (fun h_21 m_21 => ?_)
  replace H := H _ rfl
  exact j_return (dk dt_X12_truth 14 rfl) rfl ⟨_, rfl, m_21, H⟩
def F_X12_truth  (x1 : Int) (x2 : Int) (u : Mu) (P : Mu → Prop) : Prop :=
  (0 ≤ x1 ∧ x1 < 200 ∧ (∀ u_6, u_6 = uI u 66 x1 3 → (if x2 = 0 then F_X12_truth_21 x1 0 u_6 P else F_X12_truth_21 x1 1 u_6 P)))
theorem T_X12_truth  {x1 : Int} {x2 : Int} {u : Mu} {P : Mu → Prop} {h : Hp} {g : Nat → Nat} (r_x1 : R32 x1) (r_x2 : R32 x2) (m : Ms h g u)  (H : F_X12_truth x1 x2 u P) : Con mX12_truth 1 0 0 [vr (some (g 0)), ii (x1), ii (x2)] h (QMV g P) := by
  refine con_of rfl (Nat.le_of_ble_eq_true rfl) (by decide) ?_
  show J mX12_truth 1 0 0 _ 0 [some (vr (some (g 0))), some (ii (x1)), some (ii (x2))] [] h
  unfold F_X12_truth at H
  refine j_aload_n (dk dt_X12_truth 0 rfl) rfl ?_
  refine jm_getA (dk dt_X12_truth 1 rfl) fl_X12_126 rfl (c := 14) rfl m ?_
  refine j_iload_n (dk dt_X12_truth 2 rfl) rfl ?_
  refine j_iconst (v := Int32.ofInt 3) (dk dt_X12_truth 3 rfl) (by decide) ?_
  obtain ⟨p_6, q_6, H⟩ := H
  refine jm_iast (dk dt_X12_truth 4 rfl) rfl rfl m p_6 q_6 (by decide) (fun h_6 m_6 => ?_)
  replace H := H _ rfl
  refine j_aload_n (dk dt_X12_truth 5 rfl) rfl ?_
  refine jm_getA (dk dt_X12_truth 6 rfl) fl_X12_129 rfl (c := 15) rfl m_6 ?_
  refine j_iload_n (dk dt_X12_truth 7 rfl) rfl ?_
  refine j_iload_n (dk dt_X12_truth 8 rfl) rfl ?_
  refine jz_if_eq 20 (dk dt_X12_truth 9 rfl) (by decide) r_x2 H (fun H => ?_) (fun H => ?_)
  · refine j_lconst (v := Int64.ofInt 0) (dk dt_X12_truth 12 rfl) (by decide) ?_
    exact j_el (T_X12_truth_21 r_x1 (by decide) m_6   H) trivial
  · refine j_lconst (v := Int64.ofInt 1) (dk dt_X12_truth 10 rfl) (by decide) ?_
    refine j_goto 21 (dk dt_X12_truth 11 rfl) (by decide) ?_
    exact j_el (T_X12_truth_21 r_x1 (by decide) m_6   H) trivial
def L_X12_word_19  (x1 : Int) (x2 : Nat) (x3 : Int) (u : Mu) (P : (Int × Mu) ⊕ ((Mu)) → Prop) : Prop :=
  (x2 < 44 ∧ (if sLen x2 ≤ x3 then P (.inr u) else (x2 < 44 ∧ (0 ≤ x3 ∧ x3 < sLen x2 ∧ (0 ≤ w32 (w32 (24 * x1) + x3) ∧ w32 (w32 (24 * x1) + x3) < 4800 ∧ (∀ u_43, u_43 = uI u 69 (w32 (w32 (24 * x1) + x3)) (w8 (sCh x2 x3)) → P (.inl (w32 (x3 + 1), u_43))))))))
theorem U_X12_word_19  {x1 : Int} {x2 : Nat} {x3 : Int} {u : Mu} {P : (Int × Mu) ⊕ ((Mu)) → Prop} {h : Hp} {g : Nat → Nat} {post : Option Sv ⊕ String → Hp → Prop} (r_x1 : R32 x1) (r_x3 : R32 x3) (m : Ms h g u)  (hl : ∀ (x3 : Int) (u : Mu) (h : Hp), P (.inl (x3, u)) → Ms h g u → R32 x3 → J mX12_word 7 0 0 post 19 [some (vr (some (g 0))), some (ii (x1)), some (vs (x2)), some (ii (x3))] [] h) (he0 : ∀ (u : Mu) (h : Hp), P (.inr u) → Ms h g u → J mX12_word 7 0 0 post 50 [none, none, none, none] [] h) (H : L_X12_word_19 x1 x2 x3 u P) : J mX12_word 7 0 0 post 19 [some (vr (some (g 0))), some (ii (x1)), some (vs (x2)), some (ii (x3))] [] h := by
  unfold L_X12_word_19 at H
  refine j_iload_n (dk dt_X12_word 13 rfl) rfl ?_
  refine j_aloadS_n (dk dt_X12_word 14 rfl) rfl ?_
  obtain ⟨l_21, H⟩ := H
  refine jz_slength (dk dt_X12_word 15 rfl) sv_X12_264 l_21 (by decide) (Nat.le_of_ble_eq_true rfl) ?_
  refine jz_icmp_ge 50 (dk dt_X12_word 16 rfl) (by decide) r_x3 (r32_sLen _) H (fun H => ?_) (fun H => ?_)
  · exact j_el (he0 _ _ H m) trivial
  · refine j_aload_n (dk dt_X12_word 17 rfl) rfl ?_
    refine jm_getA (dk dt_X12_word 18 rfl) fl_X12_135 rfl (c := 13) rfl m ?_
    refine j_bipush (v := Int32.ofInt 24) (dk dt_X12_word 19 rfl) (by decide) ?_
    refine j_iload_n (dk dt_X12_word 20 rfl) rfl ?_
    refine jz_imul (dk dt_X12_word 21 rfl) ?_
    refine j_iload_n (dk dt_X12_word 22 rfl) rfl ?_
    refine jz_iadd (dk dt_X12_word 23 rfl) ?_
    refine j_aloadS_n (dk dt_X12_word 24 rfl) rfl ?_
    refine j_iload_n (dk dt_X12_word 25 rfl) rfl ?_
    obtain ⟨l_39, H⟩ := H
    obtain ⟨p_39, q_39, H⟩ := H
    refine jz_scharAt (dk dt_X12_word 26 rfl) sv_X12_273 l_39 p_39 q_39 (by decide) (Nat.le_of_ble_eq_true rfl) ?_
    refine jz_i2b (dk dt_X12_word 27 rfl) ?_
    obtain ⟨p_43, q_43, H⟩ := H
    refine jm_bast (dk dt_X12_word 28 rfl) rfl rfl m p_43 q_43 (b8_w _) (fun h_43 m_43 => ?_)
    replace H := H _ rfl
    refine jz_iinc (dk dt_X12_word 29 rfl) rfl ?_
    refine j_goto 19 (dk dt_X12_word 30 rfl) (by decide) ?_
    exact j_el (hl _ _ _ H m_43 (r32_w _)) (And.intro rfl (And.intro rfl (And.intro rfl (And.intro rfl trivial))))
def F_X12_word_19  (x1 : Int) (x2 : Nat) (x3 : Int) (u : Mu) (P : Mu → Prop) : Prop :=
  lp (S := Int × Mu) (E := (Mu)) (fun q P_ => L_X12_word_19 x1 x2 q.1 q.2 P_) (x3, u) (fun (u : Mu) => P u)
theorem T_X12_word_19  {x1 : Int} {x2 : Nat} {x3 : Int} {u : Mu} {P : Mu → Prop} {h : Hp} {g : Nat → Nat} (r_x1 : R32 x1) (r_x3 : R32 x3) (m : Ms h g u)   (H : F_X12_word_19 x1 x2 x3 u P) : J mX12_word 7 0 0 (nx (QMV g P)) 19 [some (vr (some (g 0))), some (ii (x1)), some (vs (x2)), some (ii (x3))] [] h := by
  unfold F_X12_word_19 at H
  refine lp_J (G := fun q => ∀ h : Hp, Ms h g (q.2) → R32 (q.1) → J mX12_word 7 0 0 (nx (QMV g P)) 19 [some (vr (some (g 0))), some (ii (x1)), some (vs (x2)), some (ii ((q.1)))] [] h) (fun q P_ hl_ he_ Hb => ?_) (x3, u) H _ m r_x3
  obtain ⟨x3, u⟩ := q
  intro h m r_x3
  refine U_X12_word_19 (P := P_) r_x1 r_x3 m  (fun x3 u h Hp m r_x3 => hl_ (x3, u) Hp h m r_x3) ?_ Hb
  · intro u h Hp m
    have H := he_ _ Hp
    exact j_return (dk dt_X12_word 31 rfl) rfl ⟨_, rfl, m, H⟩
def F_X12_word  (x1 : Int) (x2 : Nat) (u : Mu) (P : Mu → Prop) : Prop :=
  (0 ≤ x1 ∧ x1 < 200 ∧ (∀ u_6, u_6 = uI u 66 x1 2 → (x2 < 44 ∧ (0 ≤ x1 ∧ x1 < 200 ∧ (∀ u_16, u_16 = uI u_6 68 x1 (sLen x2) → F_X12_word_19 x1 x2 0 u_16 P)))))
theorem T_X12_word  {x1 : Int} {x2 : Nat} {u : Mu} {P : Mu → Prop} {h : Hp} {g : Nat → Nat} (r_x1 : R32 x1) (m : Ms h g u)  (H : F_X12_word x1 x2 u P) : Con mX12_word 7 0 0 [vr (some (g 0)), ii (x1), vs (x2)] h (QMV g P) := by
  refine con_of rfl (Nat.le_of_ble_eq_true rfl) (by decide) ?_
  show J mX12_word 7 0 0 _ 0 [some (vr (some (g 0))), some (ii (x1)), some (vs (x2)), none] [] h
  unfold F_X12_word at H
  refine j_aload_n (dk dt_X12_word 0 rfl) rfl ?_
  refine jm_getA (dk dt_X12_word 1 rfl) fl_X12_126 rfl (c := 14) rfl m ?_
  refine j_iload_n (dk dt_X12_word 2 rfl) rfl ?_
  refine j_iconst (v := Int32.ofInt 2) (dk dt_X12_word 3 rfl) (by decide) ?_
  obtain ⟨p_6, q_6, H⟩ := H
  refine jm_iast (dk dt_X12_word 4 rfl) rfl rfl m p_6 q_6 (by decide) (fun h_6 m_6 => ?_)
  replace H := H _ rfl
  refine j_aload_n (dk dt_X12_word 5 rfl) rfl ?_
  refine jm_getA (dk dt_X12_word 6 rfl) fl_X12_132 rfl (c := 14) rfl m_6 ?_
  refine j_iload_n (dk dt_X12_word 7 rfl) rfl ?_
  refine j_aloadS_n (dk dt_X12_word 8 rfl) rfl ?_
  obtain ⟨l_13, H⟩ := H
  refine jz_slength (dk dt_X12_word 9 rfl) sv_X12_264 l_13 (by decide) (Nat.le_of_ble_eq_true rfl) ?_
  obtain ⟨p_16, q_16, H⟩ := H
  refine jm_iast (dk dt_X12_word 10 rfl) rfl rfl m_6 p_16 q_16 (r32_sLen _) (fun h_16 m_16 => ?_)
  replace H := H _ rfl
  refine j_iconst (v := Int32.ofInt 0) (dk dt_X12_word 11 rfl) (by decide) ?_
  refine j_istore_n (dk dt_X12_word 12 rfl) (by decide) ?_
  exact j_el (T_X12_word_19 r_x1 (by decide) m_16   H) (And.intro rfl (And.intro rfl (And.intro rfl (And.intro rfl trivial))))
def F_X12_asOther_83  (u : Mu) (P : Mu → Prop) : Prop :=
  P u
theorem T_X12_asOther_83  {u : Mu} {P : Mu → Prop} {h : Hp} {g : Nat → Nat}  (m : Ms h g u)   (H : F_X12_asOther_83 u P) : J mX12_asOther 8 0 0 (nx (QMV g P)) 83 [none, none, none] [] h := by
  unfold F_X12_asOther_83 at H
  exact j_return (dk dt_X12_asOther 47 rfl) rfl ⟨_, rfl, m, H⟩
def F_X12_asOther_58  (x1 : Int) (x2 : Int) (u : Mu) (P : Mu → Prop) : Prop :=
  (0 ≤ x1 ∧ x1 < 200 ∧ (if mI u 66 x1 = 0 then (0 ≤ x2 ∧ x2 < 200 ∧ (if mI u 66 x2 = 3 then F_X12_truth x1 0 u (fun u_80 => F_X12_asOther_83 u_80 P) else F_X12_asOther_83 u P)) else F_X12_asOther_83 u P))
theorem T_X12_asOther_58  {x1 : Int} {x2 : Int} {u : Mu} {P : Mu → Prop} {h : Hp} {g : Nat → Nat} (r_x1 : R32 x1) (r_x2 : R32 x2) (m : Ms h g u)   (H : F_X12_asOther_58 x1 x2 u P) : J mX12_asOther 8 0 0 (nx (QMV g P)) 58 [some (vr (some (g 0))), some (ii (x1)), some (ii (x2))] [] h := by
  unfold F_X12_asOther_58 at H
  refine j_aload_n (dk dt_X12_asOther 32 rfl) rfl ?_
  refine jm_getA (dk dt_X12_asOther 33 rfl) fl_X12_126 rfl (c := 14) rfl m ?_
  refine j_iload_n (dk dt_X12_asOther 34 rfl) rfl ?_
  obtain ⟨p_63, q_63, H⟩ := H
  refine jm_iald (dk dt_X12_asOther 35 rfl) rfl rfl m p_63 q_63 ?_
  refine jz_if_ne 83 (dk dt_X12_asOther 36 rfl) (by decide) (m.2.1.1 _ _) H (fun H => ?_) (fun H => ?_)
  · refine j_aload_n (dk dt_X12_asOther 37 rfl) rfl ?_
    refine jm_getA (dk dt_X12_asOther 38 rfl) fl_X12_126 rfl (c := 14) rfl m ?_
    refine j_iload_n (dk dt_X12_asOther 39 rfl) rfl ?_
    obtain ⟨p_72, q_72, H⟩ := H
    refine jm_iald (dk dt_X12_asOther 40 rfl) rfl rfl m p_72 q_72 ?_
    refine j_iconst (v := Int32.ofInt 3) (dk dt_X12_asOther 41 rfl) (by decide) ?_
    refine jz_icmp_ne 83 (dk dt_X12_asOther 42 rfl) (by decide) (m.2.1.1 _ _) (by decide) H (fun H => ?_) (fun H => ?_)
    · refine j_aload_n (dk dt_X12_asOther 43 rfl) rfl ?_
      refine j_iload_n (dk dt_X12_asOther 44 rfl) rfl ?_
      refine j_iconst (v := Int32.ofInt 0) (dk dt_X12_asOther 45 rfl) (by decide) ?_
      refine jz_callV2 (dk dt_X12_asOther 46 rfl) vl_X12_544 rfl (T_X12_truth r_x1 (by decide) m H) m.1.1 rfl (by decide) (Nat.zero_le _) (Nat.zero_le _) (Nat.le_of_ble_eq_true rfl) (fun v_80 h_80 P_80 => ?_)
      obtain ⟨u_80, rfl, m_80, H⟩ := P_80
      dsimp only [rs]
      exact j_el (T_X12_asOther_83  m_80   H) trivial
    · exact j_el (T_X12_asOther_83  m   H) trivial
  · exact j_el (T_X12_asOther_83  m   H) trivial
def F_X12_asOther_28  (x1 : Int) (x2 : Int) (u : Mu) (P : Mu → Prop) : Prop :=
  (0 ≤ x1 ∧ x1 < 200 ∧ (if mI u 66 x1 = 0 then (0 ≤ x2 ∧ x2 < 200 ∧ (if mI u 66 x2 = 2 then F_X12_word x1 31 u (fun u_52 => F_X12_asOther_83 u_52 P) else F_X12_asOther_58 x1 x2 u P)) else F_X12_asOther_58 x1 x2 u P))
theorem T_X12_asOther_28  {x1 : Int} {x2 : Int} {u : Mu} {P : Mu → Prop} {h : Hp} {g : Nat → Nat} (r_x1 : R32 x1) (r_x2 : R32 x2) (m : Ms h g u)   (H : F_X12_asOther_28 x1 x2 u P) : J mX12_asOther 8 0 0 (nx (QMV g P)) 28 [some (vr (some (g 0))), some (ii (x1)), some (ii (x2))] [] h := by
  unfold F_X12_asOther_28 at H
  refine j_aload_n (dk dt_X12_asOther 16 rfl) rfl ?_
  refine jm_getA (dk dt_X12_asOther 17 rfl) fl_X12_126 rfl (c := 14) rfl m ?_
  refine j_iload_n (dk dt_X12_asOther 18 rfl) rfl ?_
  obtain ⟨p_33, q_33, H⟩ := H
  refine jm_iald (dk dt_X12_asOther 19 rfl) rfl rfl m p_33 q_33 ?_
  refine jz_if_ne 58 (dk dt_X12_asOther 20 rfl) (by decide) (m.2.1.1 _ _) H (fun H => ?_) (fun H => ?_)
  · refine j_aload_n (dk dt_X12_asOther 21 rfl) rfl ?_
    refine jm_getA (dk dt_X12_asOther 22 rfl) fl_X12_126 rfl (c := 14) rfl m ?_
    refine j_iload_n (dk dt_X12_asOther 23 rfl) rfl ?_
    obtain ⟨p_42, q_42, H⟩ := H
    refine jm_iald (dk dt_X12_asOther 24 rfl) rfl rfl m p_42 q_42 ?_
    refine j_iconst (v := Int32.ofInt 2) (dk dt_X12_asOther 25 rfl) (by decide) ?_
    refine jz_icmp_ne 58 (dk dt_X12_asOther 26 rfl) (by decide) (m.2.1.1 _ _) (by decide) H (fun H => ?_) (fun H => ?_)
    · refine j_aload_n (dk dt_X12_asOther 27 rfl) rfl ?_
      refine j_iload_n (dk dt_X12_asOther 28 rfl) rfl ?_
      refine j_ldcwS 31 rfl (dk dt_X12_asOther 29 rfl) rfl rfl ?_
      refine jz_callV2 (dk dt_X12_asOther 30 rfl) vl_X12_550 rfl (T_X12_word r_x1 m H) m.1.1 rfl (by decide) (Nat.zero_le _) (Nat.zero_le _) (Nat.le_of_ble_eq_true rfl) (fun v_52 h_52 P_52 => ?_)
      obtain ⟨u_52, rfl, m_52, H⟩ := P_52
      dsimp only [rs]
      refine j_goto 83 (dk dt_X12_asOther 31 rfl) (by decide) ?_
      exact j_el (T_X12_asOther_83  m_52   H) trivial
    · exact j_el (T_X12_asOther_58 r_x1 r_x2 m   H) (And.intro rfl (And.intro rfl (And.intro rfl trivial)))
  · exact j_el (T_X12_asOther_58 r_x1 r_x2 m   H) (And.intro rfl (And.intro rfl (And.intro rfl trivial)))
def F_X12_asOther  (x1 : Int) (x2 : Int) (u : Mu) (P : Mu → Prop) : Prop :=
  (0 ≤ x1 ∧ x1 < 200 ∧ (if mI u 66 x1 = 0 then (0 ≤ x2 ∧ x2 < 200 ∧ (if mI u 66 x2 = 1 then F_X12_number x1 0 u (fun u_22 => F_X12_asOther_83 u_22 P) else F_X12_asOther_28 x1 x2 u P)) else F_X12_asOther_28 x1 x2 u P))
theorem T_X12_asOther  {x1 : Int} {x2 : Int} {u : Mu} {P : Mu → Prop} {h : Hp} {g : Nat → Nat} (r_x1 : R32 x1) (r_x2 : R32 x2) (m : Ms h g u)  (H : F_X12_asOther x1 x2 u P) : Con mX12_asOther 8 0 0 [vr (some (g 0)), ii (x1), ii (x2)] h (QMV g P) := by
  refine con_of rfl (Nat.le_of_ble_eq_true rfl) (by decide) ?_
  show J mX12_asOther 8 0 0 _ 0 [some (vr (some (g 0))), some (ii (x1)), some (ii (x2))] [] h
  unfold F_X12_asOther at H
  refine j_aload_n (dk dt_X12_asOther 0 rfl) rfl ?_
  refine jm_getA (dk dt_X12_asOther 1 rfl) fl_X12_126 rfl (c := 14) rfl m ?_
  refine j_iload_n (dk dt_X12_asOther 2 rfl) rfl ?_
  obtain ⟨p_5, q_5, H⟩ := H
  refine jm_iald (dk dt_X12_asOther 3 rfl) rfl rfl m p_5 q_5 ?_
  refine jz_if_ne 28 (dk dt_X12_asOther 4 rfl) (by decide) (m.2.1.1 _ _) H (fun H => ?_) (fun H => ?_)
  · refine j_aload_n (dk dt_X12_asOther 5 rfl) rfl ?_
    refine jm_getA (dk dt_X12_asOther 6 rfl) fl_X12_126 rfl (c := 14) rfl m ?_
    refine j_iload_n (dk dt_X12_asOther 7 rfl) rfl ?_
    obtain ⟨p_14, q_14, H⟩ := H
    refine jm_iald (dk dt_X12_asOther 8 rfl) rfl rfl m p_14 q_14 ?_
    refine j_iconst (v := Int32.ofInt 1) (dk dt_X12_asOther 9 rfl) (by decide) ?_
    refine jz_icmp_ne 28 (dk dt_X12_asOther 10 rfl) (by decide) (m.2.1.1 _ _) (by decide) H (fun H => ?_) (fun H => ?_)
    · refine j_aload_n (dk dt_X12_asOther 11 rfl) rfl ?_
      refine j_iload_n (dk dt_X12_asOther 12 rfl) rfl ?_
      refine j_lconst (v := Int64.ofInt 0) (dk dt_X12_asOther 13 rfl) (by decide) ?_
      refine jz_callV2 (dk dt_X12_asOther 14 rfl) vl_X12_537 rfl (T_X12_number r_x1 (by decide) m H) m.1.1 rfl (by decide) (Nat.zero_le _) (Nat.zero_le _) (Nat.le_of_ble_eq_true rfl) (fun v_22 h_22 P_22 => ?_)
      obtain ⟨u_22, rfl, m_22, H⟩ := P_22
      dsimp only [rs]
      refine j_goto 83 (dk dt_X12_asOther 15 rfl) (by decide) ?_
      exact j_el (T_X12_asOther_83  m_22   H) trivial
    · exact j_el (T_X12_asOther_28 r_x1 r_x2 m   H) (And.intro rfl (And.intro rfl (And.intro rfl trivial)))
  · exact j_el (T_X12_asOther_28 r_x1 r_x2 m   H) (And.intro rfl (And.intro rfl (And.intro rfl trivial)))
def F_X12_in_15  (s0 : Int) (P : Int → Prop) : Prop :=
  (Z1 s0 ∧ P s0)
theorem T_X12_in_15  {s0 : Int} {P : Int → Prop} {h : Hp} (r_s0 : R32 s0)    (H : F_X12_in_15 s0 P) : J mX12_in 1 0 0 (nx (QPI h P)) 15 [none, none, none] [ii (s0)] h := by
  unfold F_X12_in_15 at H
  obtain ⟨hz_, H⟩ := H
  exact j_ireturn (dk dt_X12_in 9 rfl) rfl (nar_z hz_) ⟨_, rfl, r_s0, rfl, H⟩
def F_X12_in_14  (P : Int → Prop) : Prop :=
  F_X12_in_15 0 P
theorem T_X12_in_14  {P : Int → Prop} {h : Hp}     (H : F_X12_in_14 P) : J mX12_in 1 0 0 (nx (QPI h P)) 14 [none, none, none] [] h := by
  unfold F_X12_in_14 at H
  refine j_iconst (v := Int32.ofInt 0) (dk dt_X12_in 8 rfl) (by decide) ?_
  exact j_el (T_X12_in_15 (by decide)    H) trivial
def F_X12_in  (x0 : Int) (x1 : Int) (x2 : Int) (P : Int → Prop) : Prop :=
  (if x0 < x1 then F_X12_in_14  P else (if x2 < x0 then F_X12_in_14  P else F_X12_in_15 1 P))
theorem T_X12_in  {x0 : Int} {x1 : Int} {x2 : Int} {P : Int → Prop} {h : Hp} (r_x0 : R32 x0) (r_x1 : R32 x1) (r_x2 : R32 x2)   (H : F_X12_in x0 x1 x2 P) : Con mX12_in 1 0 0 [ii (x0), ii (x1), ii (x2)] h (QPI h P) := by
  refine con_of rfl (Nat.le_of_ble_eq_true rfl) (by decide) ?_
  show J mX12_in 1 0 0 _ 0 [some (ii (x0)), some (ii (x1)), some (ii (x2))] [] h
  unfold F_X12_in at H
  refine j_iload_n (dk dt_X12_in 0 rfl) rfl ?_
  refine j_iload_n (dk dt_X12_in 1 rfl) rfl ?_
  refine jz_icmp_lt 14 (dk dt_X12_in 2 rfl) (by decide) r_x0 r_x1 H (fun H => ?_) (fun H => ?_)
  · exact j_el (T_X12_in_14     H) trivial
  · refine j_iload_n (dk dt_X12_in 3 rfl) rfl ?_
    refine j_iload_n (dk dt_X12_in 4 rfl) rfl ?_
    refine jz_icmp_gt 14 (dk dt_X12_in 5 rfl) (by decide) r_x0 r_x2 H (fun H => ?_) (fun H => ?_)
    · exact j_el (T_X12_in_14     H) trivial
    · refine j_iconst (v := Int32.ofInt 1) (dk dt_X12_in 6 rfl) (by decide) ?_
      refine j_goto 15 (dk dt_X12_in 7 rfl) (by decide) ?_
      exact j_el (T_X12_in_15 (by decide)    H) trivial
def F_X12_isCell_33  (s0 : Int) (u : Mu) (P : Int → Prop) : Prop :=
  (Z1 s0 ∧ P s0)
theorem T_X12_isCell_33  {s0 : Int} {u : Mu} {P : Int → Prop} {h : Hp} {g : Nat → Nat} (r_s0 : R32 s0) (m : Ms h g u)   (H : F_X12_isCell_33 s0 u P) : J mX12_isCell 2 0 0 (nx (QPI h P)) 33 [none, none, none, none] [ii (s0)] h := by
  unfold F_X12_isCell_33 at H
  obtain ⟨hz_, H⟩ := H
  exact j_ireturn (dk dt_X12_isCell 19 rfl) rfl (nar_z hz_) ⟨_, rfl, r_s0, rfl, H⟩
def F_X12_isCell_32  (u : Mu) (P : Int → Prop) : Prop :=
  F_X12_isCell_33 0 u P
theorem T_X12_isCell_32  {u : Mu} {P : Int → Prop} {h : Hp} {g : Nat → Nat}  (m : Ms h g u)   (H : F_X12_isCell_32 u P) : J mX12_isCell 2 0 0 (nx (QPI h P)) 32 [none, none, none, none] [] h := by
  unfold F_X12_isCell_32 at H
  refine j_iconst (v := Int32.ofInt 0) (dk dt_X12_isCell 18 rfl) (by decide) ?_
  exact j_el (T_X12_isCell_33 (by decide) m   H) trivial
def F_X12_isCell  (x1 : Int) (x2 : Int) (x3 : Int) (u : Mu) (P : Int → Prop) : Prop :=
  (0 ≤ x1 ∧ x1 < 122 ∧ F_X12_in x2 1 (mI u 1 x1) (fun x_8 => (if x_8 = 0 then F_X12_isCell_32 u P else (0 ≤ x1 ∧ x1 < 122 ∧ F_X12_in x3 1 (mI u 2 x1) (fun x_22 => (if x_22 = 0 then F_X12_isCell_32 u P else F_X12_isCell_33 1 u P))))))
theorem T_X12_isCell  {x1 : Int} {x2 : Int} {x3 : Int} {u : Mu} {P : Int → Prop} {h : Hp} {g : Nat → Nat} (r_x1 : R32 x1) (r_x2 : R32 x2) (r_x3 : R32 x3) (m : Ms h g u)  (H : F_X12_isCell x1 x2 x3 u P) : Con mX12_isCell 2 0 0 [vr (some (g 0)), ii (x1), ii (x2), ii (x3)] h (QPI h P) := by
  refine con_of rfl (Nat.le_of_ble_eq_true rfl) (by decide) ?_
  show J mX12_isCell 2 0 0 _ 0 [some (vr (some (g 0))), some (ii (x1)), some (ii (x2)), some (ii (x3))] [] h
  unfold F_X12_isCell at H
  refine j_iload_n (dk dt_X12_isCell 0 rfl) rfl ?_
  refine j_iconst (v := Int32.ofInt 1) (dk dt_X12_isCell 1 rfl) (by decide) ?_
  refine j_aload_n (dk dt_X12_isCell 2 rfl) rfl ?_
  refine jm_getA (dk dt_X12_isCell 3 rfl) fl_X12_7 rfl (c := 14) rfl m ?_
  refine j_iload_n (dk dt_X12_isCell 4 rfl) rfl ?_
  obtain ⟨p_7, q_7, H⟩ := H
  refine jm_iald (dk dt_X12_isCell 5 rfl) rfl rfl m p_7 q_7 ?_
  refine j_callS3 (dk dt_X12_isCell 6 rfl) sl_X12_220 (T_X12_in r_x2 (by decide) (m.2.1.1 _ _) H) rfl (by decide) (Nat.zero_le _) (Nat.zero_le _) (Nat.le_of_ble_eq_true rfl) (fun v_8 h_8 P_8 => ?_)
  obtain ⟨x_8, rfl, r_8, rfl, H⟩ := P_8
  dsimp only [rs]
  refine jz_if_eq 32 (dk dt_X12_isCell 7 rfl) (by decide) r_8 H (fun H => ?_) (fun H => ?_)
  · exact j_el (T_X12_isCell_32  m   H) trivial
  · refine j_iload_n (dk dt_X12_isCell 8 rfl) rfl ?_
    refine j_iconst (v := Int32.ofInt 1) (dk dt_X12_isCell 9 rfl) (by decide) ?_
    refine j_aload_n (dk dt_X12_isCell 10 rfl) rfl ?_
    refine jm_getA (dk dt_X12_isCell 11 rfl) fl_X12_13 rfl (c := 14) rfl m ?_
    refine j_iload_n (dk dt_X12_isCell 12 rfl) rfl ?_
    obtain ⟨p_21, q_21, H⟩ := H
    refine jm_iald (dk dt_X12_isCell 13 rfl) rfl rfl m p_21 q_21 ?_
    refine j_callS3 (dk dt_X12_isCell 14 rfl) sl_X12_220 (T_X12_in r_x3 (by decide) (m.2.1.1 _ _) H) rfl (by decide) (Nat.zero_le _) (Nat.zero_le _) (Nat.le_of_ble_eq_true rfl) (fun v_22 h_22 P_22 => ?_)
    obtain ⟨x_22, rfl, r_22, rfl, H⟩ := P_22
    dsimp only [rs]
    refine jz_if_eq 32 (dk dt_X12_isCell 15 rfl) (by decide) r_22 H (fun H => ?_) (fun H => ?_)
    · exact j_el (T_X12_isCell_32  m   H) trivial
    · refine j_iconst (v := Int32.ofInt 1) (dk dt_X12_isCell 16 rfl) (by decide) ?_
      refine j_goto 33 (dk dt_X12_isCell 17 rfl) (by decide) ?_
      exact j_el (T_X12_isCell_33 (by decide) m   H) trivial
