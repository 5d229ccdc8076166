def L_X12_valuesOf_2  (x1 : Int) (x2 : Int) (u : Mu) (P : (Int × Mu) ⊕ ((Mu)) → Prop) : Prop :=
  (if 1600 ≤ x2 then P (.inr u) else (0 ≤ x2 ∧ x2 < 1600 ∧ (∀ u_15, u_15 = uG u 82 x2 0 → P (.inl (w32 (x2 + 1), u_15)))))
theorem U_X12_valuesOf_2  {x1 : Int} {x2 : Int} {u : Mu} {P : (Int × Mu) ⊕ ((Mu)) → Prop} {h : Hp} {g : Nat → Nat} {post : Option Sv ⊕ String → Hp → Prop} (r_x1 : R32 x1) (r_x2 : R32 x2) (m : Ms h g u)  (hl : ∀ (x2 : Int) (u : Mu) (h : Hp), P (.inl (x2, u)) → Ms h g u → R32 x2 → J mX12_valuesOf 413 0 0 post 2 [some (vr (some (g 0))), some (ii (x1)), some (ii (x2)), none] [] h) (he0 : ∀ (u : Mu) (h : Hp), P (.inr u) → Ms h g u → J mX12_valuesOf 413 0 0 post 22 [some (vr (some (g 0))), some (ii (x1)), none, none] [] h) (H : L_X12_valuesOf_2 x1 x2 u P) : J mX12_valuesOf 413 0 0 post 2 [some (vr (some (g 0))), some (ii (x1)), some (ii (x2)), none] [] h := by
  unfold L_X12_valuesOf_2 at H
  refine j_iload_n (dk dt_X12_valuesOf 2 rfl) rfl ?_
  refine j_sipush (v := Int32.ofInt 1600) (dk dt_X12_valuesOf 3 rfl) (by decide) ?_
  refine jz_icmp_ge 22 (dk dt_X12_valuesOf 4 rfl) (by decide) r_x2 (by decide) H (fun H => ?_) (fun H => ?_)
  · exact j_el (he0 _ _ H m) (And.intro rfl (And.intro rfl trivial))
  · refine j_aload_n (dk dt_X12_valuesOf 5 rfl) rfl ?_
    refine jm_getA (dk dt_X12_valuesOf 6 rfl) fl_X12_141 rfl (c := 15) rfl m ?_
    refine j_iload_n (dk dt_X12_valuesOf 7 rfl) rfl ?_
    refine j_lconst (v := Int64.ofInt 0) (dk dt_X12_valuesOf 8 rfl) (by decide) ?_
    obtain ⟨p_15, q_15, H⟩ := H
    refine jm_last (dk dt_X12_valuesOf 9 rfl) rfl rfl m p_15 q_15 (by decide) (fun h_15 m_15 => ?_)
    replace H := H _ rfl
    refine jz_iinc (dk dt_X12_valuesOf 10 rfl) rfl ?_
    refine j_goto 2 (dk dt_X12_valuesOf 11 rfl) (by decide) ?_
    exact j_el (hl _ _ _ H m_15 (r32_w _)) (And.intro rfl (And.intro rfl (And.intro rfl trivial)))
def L_X12_valuesOf_24  (x1 : Int) (x2 : Int) (u : Mu) (P : (Int × Mu) ⊕ ((Mu)) → Prop) : Prop :=
  (if 5 ≤ x2 then P (.inr u) else (0 ≤ x2 ∧ x2 < 5 ∧ (∀ u_35, u_35 = uG u 85 x2 0 → P (.inl (w32 (x2 + 1), u_35)))))
theorem U_X12_valuesOf_24  {x1 : Int} {x2 : Int} {u : Mu} {P : (Int × Mu) ⊕ ((Mu)) → Prop} {h : Hp} {g : Nat → Nat} {post : Option Sv ⊕ String → Hp → Prop} (r_x1 : R32 x1) (r_x2 : R32 x2) (m : Ms h g u)  (hl : ∀ (x2 : Int) (u : Mu) (h : Hp), P (.inl (x2, u)) → Ms h g u → R32 x2 → J mX12_valuesOf 413 0 0 post 24 [some (vr (some (g 0))), some (ii (x1)), some (ii (x2)), none] [] h) (he0 : ∀ (u : Mu) (h : Hp), P (.inr u) → Ms h g u → J mX12_valuesOf 413 0 0 post 42 [some (vr (some (g 0))), some (ii (x1)), none, none] [] h) (H : L_X12_valuesOf_24 x1 x2 u P) : J mX12_valuesOf 413 0 0 post 24 [some (vr (some (g 0))), some (ii (x1)), some (ii (x2)), none] [] h := by
  unfold L_X12_valuesOf_24 at H
  refine j_iload_n (dk dt_X12_valuesOf 14 rfl) rfl ?_
  refine j_iconst (v := Int32.ofInt 5) (dk dt_X12_valuesOf 15 rfl) (by decide) ?_
  refine jz_icmp_ge 42 (dk dt_X12_valuesOf 16 rfl) (by decide) r_x2 (by decide) H (fun H => ?_) (fun H => ?_)
  · exact j_el (he0 _ _ H m) (And.intro rfl (And.intro rfl trivial))
  · refine j_aload_n (dk dt_X12_valuesOf 17 rfl) rfl ?_
    refine jm_getA (dk dt_X12_valuesOf 18 rfl) fl_X12_150 rfl (c := 15) rfl m ?_
    refine j_iload_n (dk dt_X12_valuesOf 19 rfl) rfl ?_
    refine j_lconst (v := Int64.ofInt 0) (dk dt_X12_valuesOf 20 rfl) (by decide) ?_
    obtain ⟨p_35, q_35, H⟩ := H
    refine jm_last (dk dt_X12_valuesOf 21 rfl) rfl rfl m p_35 q_35 (by decide) (fun h_35 m_35 => ?_)
    replace H := H _ rfl
    refine jz_iinc (dk dt_X12_valuesOf 22 rfl) rfl ?_
    refine j_goto 24 (dk dt_X12_valuesOf 23 rfl) (by decide) ?_
    exact j_el (hl _ _ _ H m_35 (r32_w _)) (And.intro rfl (And.intro rfl (And.intro rfl trivial)))
def F_X12_valuesOf_153  (x1 : Int) (x2 : Int) (u : Mu) (P : (Int × Mu) ⊕ ((Mu)) → Prop) : Prop :=
  P (.inl (w32 (x2 + 1), u))
theorem T_X12_valuesOf_153  {x1 : Int} {x2 : Int} {u : Mu} {P : (Int × Mu) ⊕ ((Mu)) → Prop} {h : Hp} {g : Nat → Nat} {post : Option Sv ⊕ String → Hp → Prop} (r_x1 : R32 x1) (r_x2 : R32 x2) (m : Ms h g u)  (hl : ∀ (x2 : Int) (u : Mu) (h : Hp), P (.inl (x2, u)) → Ms h g u → R32 x2 → J mX12_valuesOf 413 0 0 post 44 [some (vr (some (g 0))), some (ii (x1)), some (ii (x2)), none] [] h) (he0 : ∀ (u : Mu) (h : Hp), P (.inr u) → Ms h g u → J mX12_valuesOf 413 0 0 post 159 [some (vr (some (g 0))), some (ii (x1)), none, none] [] h) (H : F_X12_valuesOf_153 x1 x2 u P) : J mX12_valuesOf 413 0 0 (post) 153 [some (vr (some (g 0))), some (ii (x1)), some (ii (x2)), none] [] h := by
  unfold F_X12_valuesOf_153 at H
  refine jz_iinc (dk dt_X12_valuesOf 91 rfl) rfl ?_
  refine j_goto 44 (dk dt_X12_valuesOf 92 rfl) (by decide) ?_
  exact j_el (hl _ _ _ H m (r32_w _)) (And.intro rfl (And.intro rfl (And.intro rfl trivial)))
def F_X12_valuesOf_121  (x1 : Int) (x2 : Int) (x3 : Int) (u : Mu) (P : (Int × Mu) ⊕ ((Mu)) → Prop) : Prop :=
  F_X12_goesThrough x2 u (fun u_123 => (if x3 = 0 then F_X12_valuesOf_153 x1 x2 u_123 P else (0 ≤ w32 (w32 (320 * x1) + x2) ∧ w32 (w32 (320 * x1) + x2) < 39040 ∧ F_X12_plainValue (mI u_123 5 (w32 (w32 (320 * x1) + x2))) (w32 (w32 (320 * x1) + x2)) u_123 (fun u_150 => F_X12_valuesOf_153 x1 x2 u_150 P))))
theorem T_X12_valuesOf_121  {x1 : Int} {x2 : Int} {x3 : Int} {u : Mu} {P : (Int × Mu) ⊕ ((Mu)) → Prop} {h : Hp} {g : Nat → Nat} {post : Option Sv ⊕ String → Hp → Prop} (r_x1 : R32 x1) (r_x2 : R32 x2) (r_x3 : R32 x3) (m : Ms h g u)  (hl : ∀ (x2 : Int) (u : Mu) (h : Hp), P (.inl (x2, u)) → Ms h g u → R32 x2 → J mX12_valuesOf 413 0 0 post 44 [some (vr (some (g 0))), some (ii (x1)), some (ii (x2)), none] [] h) (he0 : ∀ (u : Mu) (h : Hp), P (.inr u) → Ms h g u → J mX12_valuesOf 413 0 0 post 159 [some (vr (some (g 0))), some (ii (x1)), none, none] [] h) (H : F_X12_valuesOf_121 x1 x2 x3 u P) : J mX12_valuesOf 413 0 0 (post) 121 [some (vr (some (g 0))), some (ii (x1)), some (ii (x2)), some (ii (x3))] [] h := by
  unfold F_X12_valuesOf_121 at H
  refine j_aload_n (dk dt_X12_valuesOf 71 rfl) rfl ?_
  refine j_iload_n (dk dt_X12_valuesOf 72 rfl) rfl ?_
  refine jz_callV1 (dk dt_X12_valuesOf 73 rfl) vl_X12_716 rfl (T_X12_goesThrough r_x2 m H) m.1.1 rfl (by decide) (Nat.zero_le _) (Nat.zero_le _) (Nat.le_of_ble_eq_true rfl) (fun v_123 h_123 P_123 => ?_)
  obtain ⟨u_123, rfl, m_123, H⟩ := P_123
  dsimp only [rs]
  refine j_iload_n (dk dt_X12_valuesOf 74 rfl) rfl ?_
  refine jz_if_eq 153 (dk dt_X12_valuesOf 75 rfl) (by decide) r_x3 H (fun H => ?_) (fun H => ?_)
  · exact j_el (T_X12_valuesOf_153 r_x1 r_x2 m_123  hl he0 H) (And.intro rfl (And.intro rfl (And.intro rfl trivial)))
  · refine j_aload_n (dk dt_X12_valuesOf 76 rfl) rfl ?_
    refine j_aload_n (dk dt_X12_valuesOf 77 rfl) rfl ?_
    refine jm_getA (dk dt_X12_valuesOf 78 rfl) fl_X12_23 rfl (c := 14) rfl m_123 ?_
    refine j_sipush (v := Int32.ofInt 320) (dk dt_X12_valuesOf 79 rfl) (by decide) ?_
    refine j_iload_n (dk dt_X12_valuesOf 80 rfl) rfl ?_
    refine jz_imul (dk dt_X12_valuesOf 81 rfl) ?_
    refine j_iload_n (dk dt_X12_valuesOf 82 rfl) rfl ?_
    refine jz_iadd (dk dt_X12_valuesOf 83 rfl) ?_
    obtain ⟨p_142, q_142, H⟩ := H
    refine jm_iald (dk dt_X12_valuesOf 84 rfl) rfl rfl m_123 p_142 q_142 ?_
    refine j_sipush (v := Int32.ofInt 320) (dk dt_X12_valuesOf 85 rfl) (by decide) ?_
    refine j_iload_n (dk dt_X12_valuesOf 86 rfl) rfl ?_
    refine jz_imul (dk dt_X12_valuesOf 87 rfl) ?_
    refine j_iload_n (dk dt_X12_valuesOf 88 rfl) rfl ?_
    refine jz_iadd (dk dt_X12_valuesOf 89 rfl) ?_
    refine jz_callV2 (dk dt_X12_valuesOf 90 rfl) vl_X12_719 rfl (T_X12_plainValue (m_123.2.1.1 _ _) (r32_w _) m_123 H) m_123.1.1 rfl (by decide) (Nat.zero_le _) (Nat.zero_le _) (Nat.le_of_ble_eq_true rfl) (fun v_150 h_150 P_150 => ?_)
    obtain ⟨u_150, rfl, m_150, H⟩ := P_150
    dsimp only [rs]
    exact j_el (T_X12_valuesOf_153 r_x1 r_x2 m_150  hl he0 H) (And.intro rfl (And.intro rfl (And.intro rfl trivial)))
def F_X12_valuesOf_82  (x1 : Int) (x2 : Int) (s0 : Int) (u : Mu) (P : (Int × Mu) ⊕ ((Mu)) → Prop) : Prop :=
  (if s0 = 0 then F_X12_valuesOf_121 x1 x2 s0 u P else (0 ≤ w32 (w32 (320 * x1) + x2) ∧ w32 (w32 (320 * x1) + x2) < 39040 ∧ F_X12_isFormula (mI u 5 (w32 (w32 (320 * x1) + x2))) (fun x_99 => (if x_99 = 0 then F_X12_valuesOf_121 x1 x2 s0 u P else (0 ≤ x2 ∧ x2 < 320 ∧ (∀ u_111, u_111 = uI u 84 x2 0 → F_X12_leadsOf x1 x2 u_111 (fun u_115 => F_X12_valuesOf_153 x1 x2 u_115 P)))))))
theorem T_X12_valuesOf_82  {x1 : Int} {x2 : Int} {s0 : Int} {u : Mu} {P : (Int × Mu) ⊕ ((Mu)) → Prop} {h : Hp} {g : Nat → Nat} {post : Option Sv ⊕ String → Hp → Prop} (r_x1 : R32 x1) (r_x2 : R32 x2) (r_s0 : R32 s0) (m : Ms h g u)  (hl : ∀ (x2 : Int) (u : Mu) (h : Hp), P (.inl (x2, u)) → Ms h g u → R32 x2 → J mX12_valuesOf 413 0 0 post 44 [some (vr (some (g 0))), some (ii (x1)), some (ii (x2)), none] [] h) (he0 : ∀ (u : Mu) (h : Hp), P (.inr u) → Ms h g u → J mX12_valuesOf 413 0 0 post 159 [some (vr (some (g 0))), some (ii (x1)), none, none] [] h) (H : F_X12_valuesOf_82 x1 x2 s0 u P) : J mX12_valuesOf 413 0 0 (post) 82 [some (vr (some (g 0))), some (ii (x1)), some (ii (x2)), none] [ii (s0)] h := by
  unfold F_X12_valuesOf_82 at H
  refine j_istore_n (dk dt_X12_valuesOf 48 rfl) (by decide) ?_
  refine j_iload_n (dk dt_X12_valuesOf 49 rfl) rfl ?_
  refine jz_if_eq 121 (dk dt_X12_valuesOf 50 rfl) (by decide) r_s0 H (fun H => ?_) (fun H => ?_)
  · exact j_el (T_X12_valuesOf_121 r_x1 r_x2 r_s0 m  hl he0 H) (And.intro rfl (And.intro rfl (And.intro rfl (And.intro rfl trivial))))
  · refine j_aload_n (dk dt_X12_valuesOf 51 rfl) rfl ?_
    refine jm_getA (dk dt_X12_valuesOf 52 rfl) fl_X12_23 rfl (c := 14) rfl m ?_
    refine j_sipush (v := Int32.ofInt 320) (dk dt_X12_valuesOf 53 rfl) (by decide) ?_
    refine j_iload_n (dk dt_X12_valuesOf 54 rfl) rfl ?_
    refine jz_imul (dk dt_X12_valuesOf 55 rfl) ?_
    refine j_iload_n (dk dt_X12_valuesOf 56 rfl) rfl ?_
    refine jz_iadd (dk dt_X12_valuesOf 57 rfl) ?_
    obtain ⟨p_98, q_98, H⟩ := H
    refine jm_iald (dk dt_X12_valuesOf 58 rfl) rfl rfl m p_98 q_98 ?_
    refine j_callS1 (dk dt_X12_valuesOf 59 rfl) sl_X12_244 (T_X12_isFormula (m.2.1.1 _ _) H) rfl (by decide) (Nat.zero_le _) (Nat.zero_le _) (Nat.le_of_ble_eq_true rfl) (fun v_99 h_99 P_99 => ?_)
    obtain ⟨x_99, rfl, r_99, rfl, H⟩ := P_99
    dsimp only [rs]
    refine jz_if_eq 121 (dk dt_X12_valuesOf 60 rfl) (by decide) r_99 H (fun H => ?_) (fun H => ?_)
    · exact j_el (T_X12_valuesOf_121 r_x1 r_x2 r_s0 m  hl he0 H) (And.intro rfl (And.intro rfl (And.intro rfl (And.intro rfl trivial))))
    · refine j_aload_n (dk dt_X12_valuesOf 61 rfl) rfl ?_
      refine jm_getA (dk dt_X12_valuesOf 62 rfl) fl_X12_147 rfl (c := 16) rfl m ?_
      refine j_iload_n (dk dt_X12_valuesOf 63 rfl) rfl ?_
      refine j_iconst (v := Int32.ofInt 0) (dk dt_X12_valuesOf 64 rfl) (by decide) ?_
      obtain ⟨p_111, q_111, H⟩ := H
      refine jm_zast (dk dt_X12_valuesOf 65 rfl) rfl rfl m p_111 q_111 (by decide) (fun h_111 m_111 => ?_)
      replace H := H _ rfl
      refine j_aload_n (dk dt_X12_valuesOf 66 rfl) rfl ?_
      refine j_iload_n (dk dt_X12_valuesOf 67 rfl) rfl ?_
      refine j_iload_n (dk dt_X12_valuesOf 68 rfl) rfl ?_
      refine jz_callV2 (dk dt_X12_valuesOf 69 rfl) vl_X12_713 rfl (T_X12_leadsOf r_x1 r_x2 m_111 H) m_111.1.1 rfl (by decide) (Nat.zero_le _) (Nat.zero_le _) (Nat.le_of_ble_eq_true rfl) (fun v_115 h_115 P_115 => ?_)
      obtain ⟨u_115, rfl, m_115, H⟩ := P_115
      dsimp only [rs]
      refine j_goto 153 (dk dt_X12_valuesOf 70 rfl) (by decide) ?_
      exact j_el (T_X12_valuesOf_153 r_x1 r_x2 m_115  hl he0 H) (And.intro rfl (And.intro rfl (And.intro rfl trivial)))
def F_X12_valuesOf_81  (x1 : Int) (x2 : Int) (u : Mu) (P : (Int × Mu) ⊕ ((Mu)) → Prop) : Prop :=
  F_X12_valuesOf_82 x1 x2 0 u P
theorem T_X12_valuesOf_81  {x1 : Int} {x2 : Int} {u : Mu} {P : (Int × Mu) ⊕ ((Mu)) → Prop} {h : Hp} {g : Nat → Nat} {post : Option Sv ⊕ String → Hp → Prop} (r_x1 : R32 x1) (r_x2 : R32 x2) (m : Ms h g u)  (hl : ∀ (x2 : Int) (u : Mu) (h : Hp), P (.inl (x2, u)) → Ms h g u → R32 x2 → J mX12_valuesOf 413 0 0 post 44 [some (vr (some (g 0))), some (ii (x1)), some (ii (x2)), none] [] h) (he0 : ∀ (u : Mu) (h : Hp), P (.inr u) → Ms h g u → J mX12_valuesOf 413 0 0 post 159 [some (vr (some (g 0))), some (ii (x1)), none, none] [] h) (H : F_X12_valuesOf_81 x1 x2 u P) : J mX12_valuesOf 413 0 0 (post) 81 [some (vr (some (g 0))), some (ii (x1)), some (ii (x2)), none] [] h := by
  unfold F_X12_valuesOf_81 at H
  refine j_iconst (v := Int32.ofInt 0) (dk dt_X12_valuesOf 47 rfl) (by decide) ?_
  exact j_el (T_X12_valuesOf_82 r_x1 r_x2 (by decide) m  hl he0 H) (And.intro rfl (And.intro rfl (And.intro rfl trivial)))
def L_X12_valuesOf_44  (x1 : Int) (x2 : Int) (u : Mu) (P : (Int × Mu) ⊕ ((Mu)) → Prop) : Prop :=
  (if 320 ≤ x2 then P (.inr u) else (0 ≤ x1 ∧ x1 < 122 ∧ (if mI u 1 x1 ≤ w32 (Int.tdiv x2 10) then F_X12_valuesOf_81 x1 x2 u P else (0 ≤ x1 ∧ x1 < 122 ∧ (if mI u 2 x1 ≤ w32 (Int.tmod x2 10) then F_X12_valuesOf_81 x1 x2 u P else F_X12_valuesOf_82 x1 x2 1 u P)))))
theorem U_X12_valuesOf_44  {x1 : Int} {x2 : Int} {u : Mu} {P : (Int × Mu) ⊕ ((Mu)) → Prop} {h : Hp} {g : Nat → Nat} {post : Option Sv ⊕ String → Hp → Prop} (r_x1 : R32 x1) (r_x2 : R32 x2) (m : Ms h g u)  (hl : ∀ (x2 : Int) (u : Mu) (h : Hp), P (.inl (x2, u)) → Ms h g u → R32 x2 → J mX12_valuesOf 413 0 0 post 44 [some (vr (some (g 0))), some (ii (x1)), some (ii (x2)), none] [] h) (he0 : ∀ (u : Mu) (h : Hp), P (.inr u) → Ms h g u → J mX12_valuesOf 413 0 0 post 159 [some (vr (some (g 0))), some (ii (x1)), none, none] [] h) (H : L_X12_valuesOf_44 x1 x2 u P) : J mX12_valuesOf 413 0 0 post 44 [some (vr (some (g 0))), some (ii (x1)), some (ii (x2)), none] [] h := by
  unfold L_X12_valuesOf_44 at H
  refine j_iload_n (dk dt_X12_valuesOf 26 rfl) rfl ?_
  refine j_sipush (v := Int32.ofInt 320) (dk dt_X12_valuesOf 27 rfl) (by decide) ?_
  refine jz_icmp_ge 159 (dk dt_X12_valuesOf 28 rfl) (by decide) r_x2 (by decide) H (fun H => ?_) (fun H => ?_)
  · exact j_el (he0 _ _ H m) (And.intro rfl (And.intro rfl trivial))
  · refine j_iload_n (dk dt_X12_valuesOf 29 rfl) rfl ?_
    refine j_bipush (v := Int32.ofInt 10) (dk dt_X12_valuesOf 30 rfl) (by decide) ?_
    refine jz_idiv (dk dt_X12_valuesOf 31 rfl) r_x2 (by decide) (by decide) ?_
    refine j_aload_n (dk dt_X12_valuesOf 32 rfl) rfl ?_
    refine jm_getA (dk dt_X12_valuesOf 33 rfl) fl_X12_7 rfl (c := 14) rfl m ?_
    refine j_iload_n (dk dt_X12_valuesOf 34 rfl) rfl ?_
    obtain ⟨p_60, q_60, H⟩ := H
    refine jm_iald (dk dt_X12_valuesOf 35 rfl) rfl rfl m p_60 q_60 ?_
    refine jz_icmp_ge 81 (dk dt_X12_valuesOf 36 rfl) (by decide) (r32_w _) (m.2.1.1 _ _) H (fun H => ?_) (fun H => ?_)
    · exact j_el (T_X12_valuesOf_81 r_x1 r_x2 m  hl he0 H) (And.intro rfl (And.intro rfl (And.intro rfl trivial)))
    · refine j_iload_n (dk dt_X12_valuesOf 37 rfl) rfl ?_
      refine j_bipush (v := Int32.ofInt 10) (dk dt_X12_valuesOf 38 rfl) (by decide) ?_
      refine jz_irem (dk dt_X12_valuesOf 39 rfl) r_x2 (by decide) (by decide) ?_
      refine j_aload_n (dk dt_X12_valuesOf 40 rfl) rfl ?_
      refine jm_getA (dk dt_X12_valuesOf 41 rfl) fl_X12_13 rfl (c := 14) rfl m ?_
      refine j_iload_n (dk dt_X12_valuesOf 42 rfl) rfl ?_
      obtain ⟨p_73, q_73, H⟩ := H
      refine jm_iald (dk dt_X12_valuesOf 43 rfl) rfl rfl m p_73 q_73 ?_
      refine jz_icmp_ge 81 (dk dt_X12_valuesOf 44 rfl) (by decide) (r32_w _) (m.2.1.1 _ _) H (fun H => ?_) (fun H => ?_)
      · exact j_el (T_X12_valuesOf_81 r_x1 r_x2 m  hl he0 H) (And.intro rfl (And.intro rfl (And.intro rfl trivial)))
      · refine j_iconst (v := Int32.ofInt 1) (dk dt_X12_valuesOf 45 rfl) (by decide) ?_
        refine j_goto 82 (dk dt_X12_valuesOf 46 rfl) (by decide) ?_
        exact j_el (T_X12_valuesOf_82 r_x1 r_x2 (by decide) m  hl he0 H) (And.intro rfl (And.intro rfl (And.intro rfl trivial)))
def F_X12_valuesOf_217  (x1 : Int) (x2 : Int) (u : Mu) (P : (Int × Mu) ⊕ ((Mu)) → Prop) : Prop :=
  P (.inl (w32 (x2 + 1), u))
theorem T_X12_valuesOf_217  {x1 : Int} {x2 : Int} {u : Mu} {P : (Int × Mu) ⊕ ((Mu)) → Prop} {h : Hp} {g : Nat → Nat} {post : Option Sv ⊕ String → Hp → Prop} (r_x1 : R32 x1) (r_x2 : R32 x2) (m : Ms h g u)  (hl : ∀ (x2 : Int) (u : Mu) (h : Hp), P (.inl (x2, u)) → Ms h g u → R32 x2 → J mX12_valuesOf 413 0 0 post 165 [some (vr (some (g 0))), some (ii (x1)), some (ii (x2)), none] [] h) (he0 : ∀ (u : Mu) (h : Hp), P (.inr u) → Ms h g u → J mX12_valuesOf 413 0 0 post 223 [some (vr (some (g 0))), some (ii (x1)), none, none] [] h) (H : F_X12_valuesOf_217 x1 x2 u P) : J mX12_valuesOf 413 0 0 (post) 217 [some (vr (some (g 0))), some (ii (x1)), some (ii (x2)), none] [] h := by
  unfold F_X12_valuesOf_217 at H
  refine jz_iinc (dk dt_X12_valuesOf 126 rfl) rfl ?_
  refine j_goto 165 (dk dt_X12_valuesOf 127 rfl) (by decide) ?_
  exact j_el (hl _ _ _ H m (r32_w _)) (And.intro rfl (And.intro rfl (And.intro rfl trivial)))
def L_X12_valuesOf_165  (x1 : Int) (x2 : Int) (u : Mu) (P : (Int × Mu) ⊕ ((Mu)) → Prop) : Prop :=
  (if 320 ≤ x2 then P (.inr u) else (0 ≤ x2 ∧ x2 < 320 ∧ (if mI u 84 x2 = 0 then F_X12_bit 83 x2 x2 u (fun x_187 => (if x_187 = 0 then F_X12_valuesOf_217 x1 x2 u P else F_X12_goesThrough x2 u (fun u_195 => F_X12_error 0 6 u_195 (fun u_202 => F_X12_store 0 (w32 (w32 (320 * x1) + x2)) u_202 (fun u_214 => F_X12_valuesOf_217 x1 x2 u_214 P))))) else F_X12_valuesOf_217 x1 x2 u P)))
theorem U_X12_valuesOf_165  {x1 : Int} {x2 : Int} {u : Mu} {P : (Int × Mu) ⊕ ((Mu)) → Prop} {h : Hp} {g : Nat → Nat} {post : Option Sv ⊕ String → Hp → Prop} (r_x1 : R32 x1) (r_x2 : R32 x2) (m : Ms h g u)  (hl : ∀ (x2 : Int) (u : Mu) (h : Hp), P (.inl (x2, u)) → Ms h g u → R32 x2 → J mX12_valuesOf 413 0 0 post 165 [some (vr (some (g 0))), some (ii (x1)), some (ii (x2)), none] [] h) (he0 : ∀ (u : Mu) (h : Hp), P (.inr u) → Ms h g u → J mX12_valuesOf 413 0 0 post 223 [some (vr (some (g 0))), some (ii (x1)), none, none] [] h) (H : L_X12_valuesOf_165 x1 x2 u P) : J mX12_valuesOf 413 0 0 post 165 [some (vr (some (g 0))), some (ii (x1)), some (ii (x2)), none] [] h := by
  unfold L_X12_valuesOf_165 at H
  refine j_iload_n (dk dt_X12_valuesOf 97 rfl) rfl ?_
  refine j_sipush (v := Int32.ofInt 320) (dk dt_X12_valuesOf 98 rfl) (by decide) ?_
  refine jz_icmp_ge 223 (dk dt_X12_valuesOf 99 rfl) (by decide) r_x2 (by decide) H (fun H => ?_) (fun H => ?_)
  · exact j_el (he0 _ _ H m) (And.intro rfl (And.intro rfl trivial))
  · refine j_aload_n (dk dt_X12_valuesOf 100 rfl) rfl ?_
    refine jm_getA (dk dt_X12_valuesOf 101 rfl) fl_X12_147 rfl (c := 16) rfl m ?_
    refine j_iload_n (dk dt_X12_valuesOf 102 rfl) rfl ?_
    obtain ⟨p_177, q_177, H⟩ := H
    refine jm_zald (dk dt_X12_valuesOf 103 rfl) rfl rfl m p_177 q_177 ?_
    refine jz_if_ne 217 (dk dt_X12_valuesOf 104 rfl) (by decide) (m.2.1.1 _ _) H (fun H => ?_) (fun H => ?_)
    · refine j_aload_n (dk dt_X12_valuesOf 105 rfl) rfl ?_
      refine jm_getA (dk dt_X12_valuesOf 106 rfl) fl_X12_144 rfl (c := 15) rfl m ?_
      refine j_iload_n (dk dt_X12_valuesOf 107 rfl) rfl ?_
      refine j_iload_n (dk dt_X12_valuesOf 108 rfl) rfl ?_
      refine j_callS3 (dk dt_X12_valuesOf 109 rfl) sl_X12_701 (T_X12_bit r_x2 r_x2 m H) rfl (by decide) (Nat.zero_le _) (Nat.zero_le _) (Nat.le_of_ble_eq_true rfl) (fun v_187 h_187 P_187 => ?_)
      obtain ⟨x_187, rfl, r_187, rfl, H⟩ := P_187
      dsimp only [rs]
      refine jz_if_eq 217 (dk dt_X12_valuesOf 110 rfl) (by decide) r_187 H (fun H => ?_) (fun H => ?_)
      · exact j_el (T_X12_valuesOf_217 r_x1 r_x2 m  hl he0 H) (And.intro rfl (And.intro rfl (And.intro rfl trivial)))
      · refine j_aload_n (dk dt_X12_valuesOf 111 rfl) rfl ?_
        refine j_iload_n (dk dt_X12_valuesOf 112 rfl) rfl ?_
        refine jz_callV1 (dk dt_X12_valuesOf 113 rfl) vl_X12_716 rfl (T_X12_goesThrough r_x2 m H) m.1.1 rfl (by decide) (Nat.zero_le _) (Nat.zero_le _) (Nat.le_of_ble_eq_true rfl) (fun v_195 h_195 P_195 => ?_)
        obtain ⟨u_195, rfl, m_195, H⟩ := P_195
        dsimp only [rs]
        refine j_aload_n (dk dt_X12_valuesOf 114 rfl) rfl ?_
        refine j_iconst (v := Int32.ofInt 0) (dk dt_X12_valuesOf 115 rfl) (by decide) ?_
        refine j_bipush (v := Int32.ofInt 6) (dk dt_X12_valuesOf 116 rfl) (by decide) ?_
        refine jz_callV2 (dk dt_X12_valuesOf 117 rfl) vl_X12_541 rfl (T_X12_error (by decide) (by decide) m_195 H) m_195.1.1 rfl (by decide) (Nat.zero_le _) (Nat.zero_le _) (Nat.le_of_ble_eq_true rfl) (fun v_202 h_202 P_202 => ?_)
        obtain ⟨u_202, rfl, m_202, H⟩ := P_202
        dsimp only [rs]
        refine j_aload_n (dk dt_X12_valuesOf 118 rfl) rfl ?_
        refine j_iconst (v := Int32.ofInt 0) (dk dt_X12_valuesOf 119 rfl) (by decide) ?_
        refine j_sipush (v := Int32.ofInt 320) (dk dt_X12_valuesOf 120 rfl) (by decide) ?_
        refine j_iload_n (dk dt_X12_valuesOf 121 rfl) rfl ?_
        refine jz_imul (dk dt_X12_valuesOf 122 rfl) ?_
        refine j_iload_n (dk dt_X12_valuesOf 123 rfl) rfl ?_
        refine jz_iadd (dk dt_X12_valuesOf 124 rfl) ?_
        refine jz_callV2 (dk dt_X12_valuesOf 125 rfl) vl_X12_705 rfl (T_X12_store (by decide) (r32_w _) m_202 H) m_202.1.1 rfl (by decide) (Nat.zero_le _) (Nat.zero_le _) (Nat.le_of_ble_eq_true rfl) (fun v_214 h_214 P_214 => ?_)
        obtain ⟨u_214, rfl, m_214, H⟩ := P_214
        dsimp only [rs]
        exact j_el (T_X12_valuesOf_217 r_x1 r_x2 m_214  hl he0 H) (And.intro rfl (And.intro rfl (And.intro rfl trivial)))
    · exact j_el (T_X12_valuesOf_217 r_x1 r_x2 m  hl he0 H) (And.intro rfl (And.intro rfl (And.intro rfl trivial)))
def F_X12_valuesOf_288  (x1 : Int) (x2 : Int) (x3 : Int) (u : Mu) (P : (Int × Int × Mu) ⊕ ((Int × Mu)) → Prop) : Prop :=
  P (.inl (x2, w32 (x3 + 1), u))
theorem T_X12_valuesOf_288  {x1 : Int} {x2 : Int} {x3 : Int} {u : Mu} {P : (Int × Int × Mu) ⊕ ((Int × Mu)) → Prop} {h : Hp} {g : Nat → Nat} {post : Option Sv ⊕ String → Hp → Prop} (r_x1 : R32 x1) (r_x2 : R32 x2) (r_x3 : R32 x3) (m : Ms h g u)  (hl : ∀ (x2 : Int) (x3 : Int) (u : Mu) (h : Hp), P (.inl (x2, x3, u)) → Ms h g u → R32 x2 → R32 x3 → J mX12_valuesOf 413 0 0 post 233 [some (vr (some (g 0))), some (ii (x1)), some (ii (x2)), some (ii (x3))] [] h) (he0 : ∀ (x2 : Int) (u : Mu) (h : Hp), P (.inr (x2, u)) → Ms h g u → R32 x2 → J mX12_valuesOf 413 0 0 post 294 [some (vr (some (g 0))), some (ii (x1)), some (ii (x2)), none] [] h) (H : F_X12_valuesOf_288 x1 x2 x3 u P) : J mX12_valuesOf 413 0 0 (post) 288 [some (vr (some (g 0))), some (ii (x1)), some (ii (x2)), some (ii (x3))] [] h := by
  unfold F_X12_valuesOf_288 at H
  refine jz_iinc (dk dt_X12_valuesOf 169 rfl) rfl ?_
  refine j_goto 233 (dk dt_X12_valuesOf 170 rfl) (by decide) ?_
  exact j_el (hl _ _ _ _ H m r_x2 (r32_w _)) (And.intro rfl (And.intro rfl (And.intro rfl (And.intro rfl trivial))))
def L_X12_valuesOf_233  (x1 : Int) (x2 : Int) (x3 : Int) (u : Mu) (P : (Int × Int × Mu) ⊕ ((Int × Mu)) → Prop) : Prop :=
  (if 320 ≤ x3 then P (.inr (x2, u)) else (0 ≤ x3 ∧ x3 < 320 ∧ (if mI u 84 x3 = 0 then F_X12_isReady x3 u (fun x_251 => (if x_251 = 0 then F_X12_valuesOf_288 x1 x2 x3 u P else (0 ≤ w32 (w32 (320 * x1) + x3) ∧ w32 (w32 (320 * x1) + x3) < 39040 ∧ F_X12_formulaValue x1 (mI u 5 (w32 (w32 (320 * x1) + x3))) (w32 (w32 (320 * x1) + x3)) u (fun u_278 => F_X12_goesThrough x3 u_278 (fun u_283 => F_X12_valuesOf_288 x1 1 x3 u_283 P))))) else F_X12_valuesOf_288 x1 x2 x3 u P)))
theorem U_X12_valuesOf_233  {x1 : Int} {x2 : Int} {x3 : Int} {u : Mu} {P : (Int × Int × Mu) ⊕ ((Int × Mu)) → Prop} {h : Hp} {g : Nat → Nat} {post : Option Sv ⊕ String → Hp → Prop} (r_x1 : R32 x1) (r_x2 : R32 x2) (r_x3 : R32 x3) (m : Ms h g u)  (hl : ∀ (x2 : Int) (x3 : Int) (u : Mu) (h : Hp), P (.inl (x2, x3, u)) → Ms h g u → R32 x2 → R32 x3 → J mX12_valuesOf 413 0 0 post 233 [some (vr (some (g 0))), some (ii (x1)), some (ii (x2)), some (ii (x3))] [] h) (he0 : ∀ (x2 : Int) (u : Mu) (h : Hp), P (.inr (x2, u)) → Ms h g u → R32 x2 → J mX12_valuesOf 413 0 0 post 294 [some (vr (some (g 0))), some (ii (x1)), some (ii (x2)), none] [] h) (H : L_X12_valuesOf_233 x1 x2 x3 u P) : J mX12_valuesOf 413 0 0 post 233 [some (vr (some (g 0))), some (ii (x1)), some (ii (x2)), some (ii (x3))] [] h := by
  unfold L_X12_valuesOf_233 at H
  refine j_iload_n (dk dt_X12_valuesOf 136 rfl) rfl ?_
  refine j_sipush (v := Int32.ofInt 320) (dk dt_X12_valuesOf 137 rfl) (by decide) ?_
  refine jz_icmp_ge 294 (dk dt_X12_valuesOf 138 rfl) (by decide) r_x3 (by decide) H (fun H => ?_) (fun H => ?_)
  · exact j_el (he0 _ _ _ H m r_x2) (And.intro rfl (And.intro rfl (And.intro rfl trivial)))
  · refine j_aload_n (dk dt_X12_valuesOf 139 rfl) rfl ?_
    refine jm_getA (dk dt_X12_valuesOf 140 rfl) fl_X12_147 rfl (c := 16) rfl m ?_
    refine j_iload_n (dk dt_X12_valuesOf 141 rfl) rfl ?_
    obtain ⟨p_245, q_245, H⟩ := H
    refine jm_zald (dk dt_X12_valuesOf 142 rfl) rfl rfl m p_245 q_245 ?_
    refine jz_if_ne 288 (dk dt_X12_valuesOf 143 rfl) (by decide) (m.2.1.1 _ _) H (fun H => ?_) (fun H => ?_)
    · refine j_aload_n (dk dt_X12_valuesOf 144 rfl) rfl ?_
      refine j_iload_n (dk dt_X12_valuesOf 145 rfl) rfl ?_
      refine jz_callV1 (dk dt_X12_valuesOf 146 rfl) vl_X12_725 rfl (T_X12_isReady r_x3 m H) m.1.1 rfl (by decide) (Nat.zero_le _) (Nat.zero_le _) (Nat.le_of_ble_eq_true rfl) (fun v_251 h_251 P_251 => ?_)
      obtain ⟨x_251, rfl, r_251, rfl, H⟩ := P_251
      dsimp only [rs]
      refine jz_if_eq 288 (dk dt_X12_valuesOf 147 rfl) (by decide) r_251 H (fun H => ?_) (fun H => ?_)
      · exact j_el (T_X12_valuesOf_288 r_x1 r_x2 r_x3 m  hl he0 H) (And.intro rfl (And.intro rfl (And.intro rfl (And.intro rfl trivial))))
      · refine j_aload_n (dk dt_X12_valuesOf 148 rfl) rfl ?_
        refine j_iload_n (dk dt_X12_valuesOf 149 rfl) rfl ?_
        refine j_aload_n (dk dt_X12_valuesOf 150 rfl) rfl ?_
        refine jm_getA (dk dt_X12_valuesOf 151 rfl) fl_X12_23 rfl (c := 14) rfl m ?_
        refine j_sipush (v := Int32.ofInt 320) (dk dt_X12_valuesOf 152 rfl) (by decide) ?_
        refine j_iload_n (dk dt_X12_valuesOf 153 rfl) rfl ?_
        refine jz_imul (dk dt_X12_valuesOf 154 rfl) ?_
        refine j_iload_n (dk dt_X12_valuesOf 155 rfl) rfl ?_
        refine jz_iadd (dk dt_X12_valuesOf 156 rfl) ?_
        obtain ⟨p_270, q_270, H⟩ := H
        refine jm_iald (dk dt_X12_valuesOf 157 rfl) rfl rfl m p_270 q_270 ?_
        refine j_sipush (v := Int32.ofInt 320) (dk dt_X12_valuesOf 158 rfl) (by decide) ?_
        refine j_iload_n (dk dt_X12_valuesOf 159 rfl) rfl ?_
        refine jz_imul (dk dt_X12_valuesOf 160 rfl) ?_
        refine j_iload_n (dk dt_X12_valuesOf 161 rfl) rfl ?_
        refine jz_iadd (dk dt_X12_valuesOf 162 rfl) ?_
        refine jz_callV3 (dk dt_X12_valuesOf 163 rfl) vl_X12_728 rfl (T_X12_formulaValue r_x1 (m.2.1.1 _ _) (r32_w _) m H) m.1.1 rfl (by decide) (Nat.zero_le _) (Nat.zero_le _) (Nat.le_of_ble_eq_true rfl) (fun v_278 h_278 P_278 => ?_)
        obtain ⟨u_278, rfl, m_278, H⟩ := P_278
        dsimp only [rs]
        refine j_aload_n (dk dt_X12_valuesOf 164 rfl) rfl ?_
        refine j_iload_n (dk dt_X12_valuesOf 165 rfl) rfl ?_
        refine jz_callV1 (dk dt_X12_valuesOf 166 rfl) vl_X12_716 rfl (T_X12_goesThrough r_x3 m_278 H) m_278.1.1 rfl (by decide) (Nat.zero_le _) (Nat.zero_le _) (Nat.le_of_ble_eq_true rfl) (fun v_283 h_283 P_283 => ?_)
        obtain ⟨u_283, rfl, m_283, H⟩ := P_283
        dsimp only [rs]
        refine j_iconst (v := Int32.ofInt 1) (dk dt_X12_valuesOf 167 rfl) (by decide) ?_
        refine j_istore_n (dk dt_X12_valuesOf 168 rfl) (by decide) ?_
        exact j_el (T_X12_valuesOf_288 r_x1 (by decide) r_x3 m_283  hl he0 H) (And.intro rfl (And.intro rfl (And.intro rfl (And.intro rfl trivial))))
    · exact j_el (T_X12_valuesOf_288 r_x1 r_x2 r_x3 m  hl he0 H) (And.intro rfl (And.intro rfl (And.intro rfl (And.intro rfl trivial))))
def F_X12_valuesOf_233  (x1 : Int) (x2 : Int) (x3 : Int) (u : Mu) (P : (Int × Mu) ⊕ ((Mu)) → Prop) : Prop :=
  lp (S := Int × Int × Mu) (E := (Int × Mu)) (fun q P_ => L_X12_valuesOf_233 x1 q.1 q.2.1 q.2.2 P_) (x2, x3, u) (fun e => match e with | (x2, u) => P (.inl (x2, u)))
theorem T_X12_valuesOf_233  {x1 : Int} {x2 : Int} {x3 : Int} {u : Mu} {P : (Int × Mu) ⊕ ((Mu)) → Prop} {h : Hp} {g : Nat → Nat} {post : Option Sv ⊕ String → Hp → Prop} (r_x1 : R32 x1) (r_x2 : R32 x2) (r_x3 : R32 x3) (m : Ms h g u)  (hl : ∀ (x2 : Int) (u : Mu) (h : Hp), P (.inl (x2, u)) → Ms h g u → R32 x2 → J mX12_valuesOf 413 0 0 post 225 [some (vr (some (g 0))), some (ii (x1)), some (ii (x2)), none] [] h) (he0 : ∀ (u : Mu) (h : Hp), P (.inr u) → Ms h g u → J mX12_valuesOf 413 0 0 post 297 [none, none, none, none] [] h) (H : F_X12_valuesOf_233 x1 x2 x3 u P) : J mX12_valuesOf 413 0 0 (post) 233 [some (vr (some (g 0))), some (ii (x1)), some (ii (x2)), some (ii (x3))] [] h := by
  unfold F_X12_valuesOf_233 at H
  refine lp_J (G := fun q => ∀ h : Hp, Ms h g (q.2.2) → R32 (q.1) → R32 (q.2.1) → J mX12_valuesOf 413 0 0 (post) 233 [some (vr (some (g 0))), some (ii (x1)), some (ii ((q.1))), some (ii ((q.2.1)))] [] h) (fun q P_ hl_ he_ Hb => ?_) (x2, x3, u) H _ m r_x2 r_x3
  obtain ⟨x2, x3, u⟩ := q
  intro h m r_x2 r_x3
  refine U_X12_valuesOf_233 (P := P_) r_x1 r_x2 r_x3 m  (fun x2 x3 u h Hp m r_x2 r_x3 => hl_ (x2, x3, u) Hp h m r_x2 r_x3) ?_ Hb
  · intro x2 u h Hp m r_x2
    have H := he_ _ Hp
    refine j_goto 225 (dk dt_X12_valuesOf 171 rfl) (by decide) ?_
    exact j_el (hl _ _ _ H m r_x2) (And.intro rfl (And.intro rfl (And.intro rfl trivial)))
def L_X12_valuesOf_225  (x1 : Int) (x2 : Int) (u : Mu) (P : (Int × Mu) ⊕ ((Mu)) → Prop) : Prop :=
  (if x2 = 0 then P (.inr u) else F_X12_valuesOf_233 x1 0 0 u P)
theorem U_X12_valuesOf_225  {x1 : Int} {x2 : Int} {u : Mu} {P : (Int × Mu) ⊕ ((Mu)) → Prop} {h : Hp} {g : Nat → Nat} {post : Option Sv ⊕ String → Hp → Prop} (r_x1 : R32 x1) (r_x2 : R32 x2) (m : Ms h g u)  (hl : ∀ (x2 : Int) (u : Mu) (h : Hp), P (.inl (x2, u)) → Ms h g u → R32 x2 → J mX12_valuesOf 413 0 0 post 225 [some (vr (some (g 0))), some (ii (x1)), some (ii (x2)), none] [] h) (he0 : ∀ (u : Mu) (h : Hp), P (.inr u) → Ms h g u → J mX12_valuesOf 413 0 0 post 297 [none, none, none, none] [] h) (H : L_X12_valuesOf_225 x1 x2 u P) : J mX12_valuesOf 413 0 0 post 225 [some (vr (some (g 0))), some (ii (x1)), some (ii (x2)), none] [] h := by
  unfold L_X12_valuesOf_225 at H
  refine j_iload_n (dk dt_X12_valuesOf 130 rfl) rfl ?_
  refine jz_if_eq 297 (dk dt_X12_valuesOf 131 rfl) (by decide) r_x2 H (fun H => ?_) (fun H => ?_)
  · exact j_el (he0 _ _ H m) trivial
  · refine j_iconst (v := Int32.ofInt 0) (dk dt_X12_valuesOf 132 rfl) (by decide) ?_
    refine j_istore_n (dk dt_X12_valuesOf 133 rfl) (by decide) ?_
    refine j_iconst (v := Int32.ofInt 0) (dk dt_X12_valuesOf 134 rfl) (by decide) ?_
    refine j_istore_n (dk dt_X12_valuesOf 135 rfl) (by decide) ?_
    exact j_el (T_X12_valuesOf_233 r_x1 (by decide) (by decide) m  hl he0 H) (And.intro rfl (And.intro rfl (And.intro rfl (And.intro rfl trivial))))
def F_X12_valuesOf_225  (x1 : Int) (x2 : Int) (u : Mu) (P : Mu → Prop) : Prop :=
  lp (S := Int × Mu) (E := (Mu)) (fun q P_ => L_X12_valuesOf_225 x1 q.1 q.2 P_) (x2, u) (fun (u : Mu) => P u)
theorem T_X12_valuesOf_225  {x1 : Int} {x2 : Int} {u : Mu} {P : Mu → Prop} {h : Hp} {g : Nat → Nat} (r_x1 : R32 x1) (r_x2 : R32 x2) (m : Ms h g u)   (H : F_X12_valuesOf_225 x1 x2 u P) : J mX12_valuesOf 413 0 0 (nx (QMV g P)) 225 [some (vr (some (g 0))), some (ii (x1)), some (ii (x2)), none] [] h := by
  unfold F_X12_valuesOf_225 at H
  refine lp_J (G := fun q => ∀ h : Hp, Ms h g (q.2) → R32 (q.1) → J mX12_valuesOf 413 0 0 (nx (QMV g P)) 225 [some (vr (some (g 0))), some (ii (x1)), some (ii ((q.1))), none] [] h) (fun q P_ hl_ he_ Hb => ?_) (x2, u) H _ m r_x2
  obtain ⟨x2, u⟩ := q
  intro h m r_x2
  refine U_X12_valuesOf_225 (P := P_) r_x1 r_x2 m  (fun x2 u h Hp m r_x2 => hl_ (x2, u) Hp h m r_x2) ?_ Hb
  · intro u h Hp m
    have H := he_ _ Hp
    exact j_return (dk dt_X12_valuesOf 172 rfl) rfl ⟨_, rfl, m, H⟩
def F_X12_valuesOf_165  (x1 : Int) (x2 : Int) (u : Mu) (P : Mu → Prop) : Prop :=
  lp (S := Int × Mu) (E := (Mu)) (fun q P_ => L_X12_valuesOf_165 x1 q.1 q.2 P_) (x2, u) (fun (u : Mu) => F_X12_valuesOf_225 x1 1 u P)
theorem T_X12_valuesOf_165  {x1 : Int} {x2 : Int} {u : Mu} {P : Mu → Prop} {h : Hp} {g : Nat → Nat} (r_x1 : R32 x1) (r_x2 : R32 x2) (m : Ms h g u)   (H : F_X12_valuesOf_165 x1 x2 u P) : J mX12_valuesOf 413 0 0 (nx (QMV g P)) 165 [some (vr (some (g 0))), some (ii (x1)), some (ii (x2)), none] [] h := by
  unfold F_X12_valuesOf_165 at H
  refine lp_J (G := fun q => ∀ h : Hp, Ms h g (q.2) → R32 (q.1) → J mX12_valuesOf 413 0 0 (nx (QMV g P)) 165 [some (vr (some (g 0))), some (ii (x1)), some (ii ((q.1))), none] [] h) (fun q P_ hl_ he_ Hb => ?_) (x2, u) H _ m r_x2
  obtain ⟨x2, u⟩ := q
  intro h m r_x2
  refine U_X12_valuesOf_165 (P := P_) r_x1 r_x2 m  (fun x2 u h Hp m r_x2 => hl_ (x2, u) Hp h m r_x2) ?_ Hb
  · intro u h Hp m
    have H := he_ _ Hp
    refine j_iconst (v := Int32.ofInt 1) (dk dt_X12_valuesOf 128 rfl) (by decide) ?_
    refine j_istore_n (dk dt_X12_valuesOf 129 rfl) (by decide) ?_
    exact j_el (T_X12_valuesOf_225 r_x1 (by decide) m   H) (And.intro rfl (And.intro rfl (And.intro rfl trivial)))
def F_X12_valuesOf_44  (x1 : Int) (x2 : Int) (u : Mu) (P : Mu → Prop) : Prop :=
  lp (S := Int × Mu) (E := (Mu)) (fun q P_ => L_X12_valuesOf_44 x1 q.1 q.2 P_) (x2, u) (fun (u : Mu) => F_X12_close u (fun u_160 => F_X12_valuesOf_165 x1 0 u_160 P))
theorem T_X12_valuesOf_44  {x1 : Int} {x2 : Int} {u : Mu} {P : Mu → Prop} {h : Hp} {g : Nat → Nat} (r_x1 : R32 x1) (r_x2 : R32 x2) (m : Ms h g u)   (H : F_X12_valuesOf_44 x1 x2 u P) : J mX12_valuesOf 413 0 0 (nx (QMV g P)) 44 [some (vr (some (g 0))), some (ii (x1)), some (ii (x2)), none] [] h := by
  unfold F_X12_valuesOf_44 at H
  refine lp_J (G := fun q => ∀ h : Hp, Ms h g (q.2) → R32 (q.1) → J mX12_valuesOf 413 0 0 (nx (QMV g P)) 44 [some (vr (some (g 0))), some (ii (x1)), some (ii ((q.1))), none] [] h) (fun q P_ hl_ he_ Hb => ?_) (x2, u) H _ m r_x2
  obtain ⟨x2, u⟩ := q
  intro h m r_x2
  refine U_X12_valuesOf_44 (P := P_) r_x1 r_x2 m  (fun x2 u h Hp m r_x2 => hl_ (x2, u) Hp h m r_x2) ?_ Hb
  · intro u h Hp m
    have H := he_ _ Hp
    refine j_aload_n (dk dt_X12_valuesOf 93 rfl) rfl ?_
    refine jz_callV0 (dk dt_X12_valuesOf 94 rfl) vl_X12_722 rfl (T_X12_close m H) m.1.1 rfl (by decide) (Nat.zero_le _) (Nat.zero_le _) (Nat.le_of_ble_eq_true rfl) (fun v_160 h_160 P_160 => ?_)
    obtain ⟨u_160, rfl, m_160, H⟩ := P_160
    dsimp only [rs]
    refine j_iconst (v := Int32.ofInt 0) (dk dt_X12_valuesOf 95 rfl) (by decide) ?_
    refine j_istore_n (dk dt_X12_valuesOf 96 rfl) (by decide) ?_
    exact j_el (T_X12_valuesOf_165 r_x1 (by decide) m_160   H) (And.intro rfl (And.intro rfl (And.intro rfl trivial)))
def F_X12_valuesOf_24  (x1 : Int) (x2 : Int) (u : Mu) (P : Mu → Prop) : Prop :=
  lp (S := Int × Mu) (E := (Mu)) (fun q P_ => L_X12_valuesOf_24 x1 q.1 q.2 P_) (x2, u) (fun (u : Mu) => F_X12_valuesOf_44 x1 0 u P)
theorem T_X12_valuesOf_24  {x1 : Int} {x2 : Int} {u : Mu} {P : Mu → Prop} {h : Hp} {g : Nat → Nat} (r_x1 : R32 x1) (r_x2 : R32 x2) (m : Ms h g u)   (H : F_X12_valuesOf_24 x1 x2 u P) : J mX12_valuesOf 413 0 0 (nx (QMV g P)) 24 [some (vr (some (g 0))), some (ii (x1)), some (ii (x2)), none] [] h := by
  unfold F_X12_valuesOf_24 at H
  refine lp_J (G := fun q => ∀ h : Hp, Ms h g (q.2) → R32 (q.1) → J mX12_valuesOf 413 0 0 (nx (QMV g P)) 24 [some (vr (some (g 0))), some (ii (x1)), some (ii ((q.1))), none] [] h) (fun q P_ hl_ he_ Hb => ?_) (x2, u) H _ m r_x2
  obtain ⟨x2, u⟩ := q
  intro h m r_x2
  refine U_X12_valuesOf_24 (P := P_) r_x1 r_x2 m  (fun x2 u h Hp m r_x2 => hl_ (x2, u) Hp h m r_x2) ?_ Hb
  · intro u h Hp m
    have H := he_ _ Hp
    refine j_iconst (v := Int32.ofInt 0) (dk dt_X12_valuesOf 24 rfl) (by decide) ?_
    refine j_istore_n (dk dt_X12_valuesOf 25 rfl) (by decide) ?_
    exact j_el (T_X12_valuesOf_44 r_x1 (by decide) m   H) (And.intro rfl (And.intro rfl (And.intro rfl trivial)))
def F_X12_valuesOf_2  (x1 : Int) (x2 : Int) (u : Mu) (P : Mu → Prop) : Prop :=
  lp (S := Int × Mu) (E := (Mu)) (fun q P_ => L_X12_valuesOf_2 x1 q.1 q.2 P_) (x2, u) (fun (u : Mu) => F_X12_valuesOf_24 x1 0 u P)
theorem T_X12_valuesOf_2  {x1 : Int} {x2 : Int} {u : Mu} {P : Mu → Prop} {h : Hp} {g : Nat → Nat} (r_x1 : R32 x1) (r_x2 : R32 x2) (m : Ms h g u)   (H : F_X12_valuesOf_2 x1 x2 u P) : J mX12_valuesOf 413 0 0 (nx (QMV g P)) 2 [some (vr (some (g 0))), some (ii (x1)), some (ii (x2)), none] [] h := by
  unfold F_X12_valuesOf_2 at H
  refine lp_J (G := fun q => ∀ h : Hp, Ms h g (q.2) → R32 (q.1) → J mX12_valuesOf 413 0 0 (nx (QMV g P)) 2 [some (vr (some (g 0))), some (ii (x1)), some (ii ((q.1))), none] [] h) (fun q P_ hl_ he_ Hb => ?_) (x2, u) H _ m r_x2
  obtain ⟨x2, u⟩ := q
  intro h m r_x2
  refine U_X12_valuesOf_2 (P := P_) r_x1 r_x2 m  (fun x2 u h Hp m r_x2 => hl_ (x2, u) Hp h m r_x2) ?_ Hb
  · intro u h Hp m
    have H := he_ _ Hp
    refine j_iconst (v := Int32.ofInt 0) (dk dt_X12_valuesOf 12 rfl) (by decide) ?_
    refine j_istore_n (dk dt_X12_valuesOf 13 rfl) (by decide) ?_
    exact j_el (T_X12_valuesOf_24 r_x1 (by decide) m   H) (And.intro rfl (And.intro rfl (And.intro rfl trivial)))
def F_X12_valuesOf  (x1 : Int) (u : Mu) (P : Mu → Prop) : Prop :=
  F_X12_valuesOf_2 x1 0 u P
theorem T_X12_valuesOf  {x1 : Int} {u : Mu} {P : Mu → Prop} {h : Hp} {g : Nat → Nat} (r_x1 : R32 x1) (m : Ms h g u)  (H : F_X12_valuesOf x1 u P) : Con mX12_valuesOf 413 0 0 [vr (some (g 0)), ii (x1)] h (QMV g P) := by
  refine con_of rfl (Nat.le_of_ble_eq_true rfl) (by decide) ?_
  show J mX12_valuesOf 413 0 0 _ 0 [some (vr (some (g 0))), some (ii (x1)), none, none] [] h
  unfold F_X12_valuesOf at H
  refine j_iconst (v := Int32.ofInt 0) (dk dt_X12_valuesOf 0 rfl) (by decide) ?_
  refine j_istore_n (dk dt_X12_valuesOf 1 rfl) (by decide) ?_
  exact j_el (T_X12_valuesOf_2 r_x1 (by decide) m   H) (And.intro rfl (And.intro rfl (And.intro rfl trivial)))
def F_X12_needValues_45  (x1 : Int) (x2 : Int) (x3 : Int) (u : Mu) (P : (Int × Mu) ⊕ ((Mu)) → Prop) : Prop :=
  P (.inl (w32 (x3 + 1), u))
theorem T_X12_needValues_45  {x1 : Int} {x2 : Int} {x3 : Int} {u : Mu} {P : (Int × Mu) ⊕ ((Mu)) → Prop} {h : Hp} {g : Nat → Nat} {post : Option Sv ⊕ String → Hp → Prop} (r_x1 : R32 x1) (r_x2 : R32 x2) (r_x3 : R32 x3) (m : Ms h g u)  (hl : ∀ (x3 : Int) (u : Mu) (h : Hp), P (.inl (x3, u)) → Ms h g u → R32 x3 → J mX12_needValues 414 0 0 post 19 [some (vr (some (g 0))), some (ii (x1)), some (ii (x2)), some (ii (x3))] [] h) (he0 : ∀ (u : Mu) (h : Hp), P (.inr u) → Ms h g u → J mX12_needValues 414 0 0 post 51 [some (vr (some (g 0))), some (ii (x1)), none, none] [] h) (H : F_X12_needValues_45 x1 x2 x3 u P) : J mX12_needValues 414 0 0 (post) 45 [some (vr (some (g 0))), some (ii (x1)), some (ii (x2)), some (ii (x3))] [] h := by
  unfold F_X12_needValues_45 at H
  refine jz_iinc (dk dt_X12_needValues 28 rfl) rfl ?_
  refine j_goto 19 (dk dt_X12_needValues 29 rfl) (by decide) ?_
  exact j_el (hl _ _ _ H m (r32_w _)) (And.intro rfl (And.intro rfl (And.intro rfl (And.intro rfl trivial))))
def L_X12_needValues_19  (x1 : Int) (x2 : Int) (x3 : Int) (u : Mu) (P : (Int × Mu) ⊕ ((Mu)) → Prop) : Prop :=
  (if x2 ≤ x3 then P (.inr u) else (0 ≤ x3 ∧ x3 < 40 ∧ (if mI u 64 x3 = 0 then F_X12_valuesOf x3 u (fun u_35 => (∀ u_44, u_44 = uI u_35 64 x3 1 → F_X12_needValues_45 x1 x2 x3 u_44 P)) else F_X12_needValues_45 x1 x2 x3 u P)))
theorem U_X12_needValues_19  {x1 : Int} {x2 : Int} {x3 : Int} {u : Mu} {P : (Int × Mu) ⊕ ((Mu)) → Prop} {h : Hp} {g : Nat → Nat} {post : Option Sv ⊕ String → Hp → Prop} (r_x1 : R32 x1) (r_x2 : R32 x2) (r_x3 : R32 x3) (m : Ms h g u)  (hl : ∀ (x3 : Int) (u : Mu) (h : Hp), P (.inl (x3, u)) → Ms h g u → R32 x3 → J mX12_needValues 414 0 0 post 19 [some (vr (some (g 0))), some (ii (x1)), some (ii (x2)), some (ii (x3))] [] h) (he0 : ∀ (u : Mu) (h : Hp), P (.inr u) → Ms h g u → J mX12_needValues 414 0 0 post 51 [some (vr (some (g 0))), some (ii (x1)), none, none] [] h) (H : L_X12_needValues_19 x1 x2 x3 u P) : J mX12_needValues 414 0 0 post 19 [some (vr (some (g 0))), some (ii (x1)), some (ii (x2)), some (ii (x3))] [] h := by
  unfold L_X12_needValues_19 at H
  refine j_iload_n (dk dt_X12_needValues 12 rfl) rfl ?_
  refine j_iload_n (dk dt_X12_needValues 13 rfl) rfl ?_
  refine jz_icmp_ge 51 (dk dt_X12_needValues 14 rfl) (by decide) r_x3 r_x2 H (fun H => ?_) (fun H => ?_)
  · exact j_el (he0 _ _ H m) (And.intro rfl (And.intro rfl trivial))
  · refine j_aload_n (dk dt_X12_needValues 15 rfl) rfl ?_
    refine jm_getA (dk dt_X12_needValues 16 rfl) fl_X12_122 rfl (c := 16) rfl m ?_
    refine j_iload_n (dk dt_X12_needValues 17 rfl) rfl ?_
    obtain ⟨p_29, q_29, H⟩ := H
    refine jm_zald (dk dt_X12_needValues 18 rfl) rfl rfl m p_29 q_29 ?_
    refine jz_if_ne 45 (dk dt_X12_needValues 19 rfl) (by decide) (m.2.1.1 _ _) H (fun H => ?_) (fun H => ?_)
    · refine j_aload_n (dk dt_X12_needValues 20 rfl) rfl ?_
      refine j_iload_n (dk dt_X12_needValues 21 rfl) rfl ?_
      refine jz_callV1 (dk dt_X12_needValues 22 rfl) vl_X12_731 rfl (T_X12_valuesOf r_x3 m H) m.1.1 rfl (by decide) (Nat.zero_le _) (Nat.zero_le _) (Nat.le_of_ble_eq_true rfl) (fun v_35 h_35 P_35 => ?_)
      obtain ⟨u_35, rfl, m_35, H⟩ := P_35
      dsimp only [rs]
      refine j_aload_n (dk dt_X12_needValues 23 rfl) rfl ?_
      refine jm_getA (dk dt_X12_needValues 24 rfl) fl_X12_122 rfl (c := 16) rfl m_35 ?_
      refine j_iload_n (dk dt_X12_needValues 25 rfl) rfl ?_
      refine j_iconst (v := Int32.ofInt 1) (dk dt_X12_needValues 26 rfl) (by decide) ?_
      refine jm_zast (dk dt_X12_needValues 27 rfl) rfl rfl m_35 p_29 q_29 (by decide) (fun h_44 m_44 => ?_)
      replace H := H _ rfl
      exact j_el (T_X12_needValues_45 r_x1 r_x2 r_x3 m_44  hl he0 H) (And.intro rfl (And.intro rfl (And.intro rfl (And.intro rfl trivial))))
    · exact j_el (T_X12_needValues_45 r_x1 r_x2 r_x3 m  hl he0 H) (And.intro rfl (And.intro rfl (And.intro rfl (And.intro rfl trivial))))
def F_X12_needValues_75  (u : Mu) (P : Mu → Prop) : Prop :=
  P u
theorem T_X12_needValues_75  {u : Mu} {P : Mu → Prop} {h : Hp} {g : Nat → Nat}  (m : Ms h g u)   (H : F_X12_needValues_75 u P) : J mX12_needValues 414 0 0 (nx (QMV g P)) 75 [none, none, none, none] [] h := by
  unfold F_X12_needValues_75 at H
  exact j_return (dk dt_X12_needValues 42 rfl) rfl ⟨_, rfl, m, H⟩
def F_X12_needValues_19  (x1 : Int) (x2 : Int) (x3 : Int) (u : Mu) (P : Mu → Prop) : Prop :=
  lp (S := Int × Mu) (E := (Mu)) (fun q P_ => L_X12_needValues_19 x1 x2 q.1 q.2 P_) (x3, u) (fun (u : Mu) => (if x1 = 40 then (if mI u 0 65 = 0 then F_X12_valuesOf 40 u (fun u_67 => (∀ u_72, u_72 = uI u_67 0 65 1 → F_X12_needValues_75 u_72 P)) else F_X12_needValues_75 u P) else F_X12_needValues_75 u P))
theorem T_X12_needValues_19  {x1 : Int} {x2 : Int} {x3 : Int} {u : Mu} {P : Mu → Prop} {h : Hp} {g : Nat → Nat} (r_x1 : R32 x1) (r_x2 : R32 x2) (r_x3 : R32 x3) (m : Ms h g u)   (H : F_X12_needValues_19 x1 x2 x3 u P) : J mX12_needValues 414 0 0 (nx (QMV g P)) 19 [some (vr (some (g 0))), some (ii (x1)), some (ii (x2)), some (ii (x3))] [] h := by
  unfold F_X12_needValues_19 at H
  refine lp_J (G := fun q => ∀ h : Hp, Ms h g (q.2) → R32 (q.1) → J mX12_needValues 414 0 0 (nx (QMV g P)) 19 [some (vr (some (g 0))), some (ii (x1)), some (ii (x2)), some (ii ((q.1)))] [] h) (fun q P_ hl_ he_ Hb => ?_) (x3, u) H _ m r_x3
  obtain ⟨x3, u⟩ := q
  intro h m r_x3
  refine U_X12_needValues_19 (P := P_) r_x1 r_x2 r_x3 m  (fun x3 u h Hp m r_x3 => hl_ (x3, u) Hp h m r_x3) ?_ Hb
  · intro u h Hp m
    have H := he_ _ Hp
    refine j_iload_n (dk dt_X12_needValues 30 rfl) rfl ?_
    refine j_bipush (v := Int32.ofInt 40) (dk dt_X12_needValues 31 rfl) (by decide) ?_
    refine jz_icmp_ne 75 (dk dt_X12_needValues 32 rfl) (by decide) r_x1 (by decide) H (fun H => ?_) (fun H => ?_)
    · refine j_aload_n (dk dt_X12_needValues 33 rfl) rfl ?_
      refine jm_getI (kz := 65) (dk dt_X12_needValues 34 rfl) fl_X12_205 rfl rfl m ?_
      refine jz_if_ne 75 (dk dt_X12_needValues 35 rfl) (by decide) (m.2.1.1 _ _) H (fun H => ?_) (fun H => ?_)
      · refine j_aload_n (dk dt_X12_needValues 36 rfl) rfl ?_
        refine j_bipush (v := Int32.ofInt 40) (dk dt_X12_needValues 37 rfl) (by decide) ?_
        refine jz_callV1 (dk dt_X12_needValues 38 rfl) vl_X12_731 rfl (T_X12_valuesOf (by decide) m H) m.1.1 rfl (by decide) (Nat.zero_le _) (Nat.zero_le _) (Nat.le_of_ble_eq_true rfl) (fun v_67 h_67 P_67 => ?_)
        obtain ⟨u_67, rfl, m_67, H⟩ := P_67
        dsimp only [rs]
        refine j_aload_n (dk dt_X12_needValues 39 rfl) rfl ?_
        refine j_iconst (v := Int32.ofInt 1) (dk dt_X12_needValues 40 rfl) (by decide) ?_
        refine jm_putI (kz := 65) (dk dt_X12_needValues 41 rfl) fl_X12_205 rfl (nar_z (by decide)) (fit_z (by decide)) rfl m_67 (by decide) (fun h_72 m_72 => ?_)
        replace H := H _ rfl
        exact j_el (T_X12_needValues_75  m_72   H) trivial
      · exact j_el (T_X12_needValues_75  m   H) trivial
    · exact j_el (T_X12_needValues_75  m   H) trivial
def F_X12_needValues_16  (x1 : Int) (s0 : Int) (u : Mu) (P : Mu → Prop) : Prop :=
  F_X12_needValues_19 x1 s0 0 u P
theorem T_X12_needValues_16  {x1 : Int} {s0 : Int} {u : Mu} {P : Mu → Prop} {h : Hp} {g : Nat → Nat} (r_x1 : R32 x1) (r_s0 : R32 s0) (m : Ms h g u)   (H : F_X12_needValues_16 x1 s0 u P) : J mX12_needValues 414 0 0 (nx (QMV g P)) 16 [some (vr (some (g 0))), some (ii (x1)), none, none] [ii (s0)] h := by
  unfold F_X12_needValues_16 at H
  refine j_istore_n (dk dt_X12_needValues 9 rfl) (by decide) ?_
  refine j_iconst (v := Int32.ofInt 0) (dk dt_X12_needValues 10 rfl) (by decide) ?_
  refine j_istore_n (dk dt_X12_needValues 11 rfl) (by decide) ?_
  exact j_el (T_X12_needValues_19 r_x1 r_s0 (by decide) m   H) (And.intro rfl (And.intro rfl (And.intro rfl (And.intro rfl trivial))))
def F_X12_needValues  (x1 : Int) (u : Mu) (P : Mu → Prop) : Prop :=
  (if x1 = 40 then F_X12_needValues_16 x1 (mI u 0 8) u P else F_X12_needValues_16 x1 (w32 (x1 + 1)) u P)
theorem T_X12_needValues  {x1 : Int} {u : Mu} {P : Mu → Prop} {h : Hp} {g : Nat → Nat} (r_x1 : R32 x1) (m : Ms h g u)  (H : F_X12_needValues x1 u P) : Con mX12_needValues 414 0 0 [vr (some (g 0)), ii (x1)] h (QMV g P) := by
  refine con_of rfl (Nat.le_of_ble_eq_true rfl) (by decide) ?_
  show J mX12_needValues 414 0 0 _ 0 [some (vr (some (g 0))), some (ii (x1)), none, none] [] h
  unfold F_X12_needValues at H
  refine j_iload_n (dk dt_X12_needValues 0 rfl) rfl ?_
  refine j_bipush (v := Int32.ofInt 40) (dk dt_X12_needValues 1 rfl) (by decide) ?_
  refine jz_icmp_ne 13 (dk dt_X12_needValues 2 rfl) (by decide) r_x1 (by decide) H (fun H => ?_) (fun H => ?_)
  · refine j_aload_n (dk dt_X12_needValues 3 rfl) rfl ?_
    refine jm_getI (kz := 8) (dk dt_X12_needValues 4 rfl) fl_X12_33 rfl rfl m ?_
    refine j_goto 16 (dk dt_X12_needValues 5 rfl) (by decide) ?_
    exact j_el (T_X12_needValues_16 r_x1 (m.2.1.1 _ _) m   H) (And.intro rfl (And.intro rfl trivial))
  · refine j_iload_n (dk dt_X12_needValues 6 rfl) rfl ?_
    refine j_iconst (v := Int32.ofInt 1) (dk dt_X12_needValues 7 rfl) (by decide) ?_
    refine jz_iadd (dk dt_X12_needValues 8 rfl) ?_
    exact j_el (T_X12_needValues_16 r_x1 (r32_w _) m   H) (And.intro rfl (And.intro rfl trivial))
def F_X12_kind  (x1 : Int) (x2 : Int) (x3 : Int) (u : Mu) (P : Int → Mu → Prop) : Prop :=
  (∀ u_2, u_2 = uI u 0 0 0 → F_X12_asked x1 x2 x3 u_2 (fun x_9 => (if 0 ≤ x_9 then F_X12_sheetAt x1 (fun x_23 => F_X12_needValues x_23 u_2 (fun u_26 => (0 ≤ x_9 ∧ x_9 < 13120 ∧ P (mI u_26 60 x_9) u_26))) else P (-1) u_2)))
theorem T_X12_kind  {x1 : Int} {x2 : Int} {x3 : Int} {u : Mu} {P : Int → Mu → Prop} {h : Hp} {g : Nat → Nat} (r_x1 : R32 x1) (r_x2 : R32 x2) (r_x3 : R32 x3) (m : Ms h g u)  (H : F_X12_kind x1 x2 x3 u P) : Con mX12_kind 415 0 0 [vr (some (g 0)), ii (x1), ii (x2), ii (x3)] h (QMI g P) := by
  refine con_of rfl (Nat.le_of_ble_eq_true rfl) (by decide) ?_
  show J mX12_kind 415 0 0 _ 0 [some (vr (some (g 0))), some (ii (x1)), some (ii (x2)), some (ii (x3)), none] [] h
  unfold F_X12_kind at H
  refine j_aload_n (dk dt_X12_kind 0 rfl) rfl ?_
  refine j_iconst (v := Int32.ofInt 0) (dk dt_X12_kind 1 rfl) (by decide) ?_
  refine jm_putI (kz := 0) (dk dt_X12_kind 2 rfl) fl_X12_202 rfl rfl rfl rfl m (by decide) (fun h_2 m_2 => ?_)
  replace H := H _ rfl
  refine j_aload_n (dk dt_X12_kind 3 rfl) rfl ?_
  refine j_iload_n (dk dt_X12_kind 4 rfl) rfl ?_
  refine j_iload_n (dk dt_X12_kind 5 rfl) rfl ?_
  refine j_iload_n (dk dt_X12_kind 6 rfl) rfl ?_
  refine jz_callV3 (dk dt_X12_kind 7 rfl) vl_X12_740 rfl (T_X12_asked r_x1 r_x2 r_x3 m_2 H) m_2.1.1 rfl (by decide) (Nat.zero_le _) (Nat.zero_le _) (Nat.le_of_ble_eq_true rfl) (fun v_9 h_9 P_9 => ?_)
  obtain ⟨x_9, rfl, r_9, rfl, H⟩ := P_9
  dsimp only [rs]
  refine j_istore (dk dt_X12_kind 8 rfl) (by decide) ?_
  refine j_iload (dk dt_X12_kind 9 rfl) rfl ?_
  refine jz_if_ge 21 (dk dt_X12_kind 10 rfl) (by decide) r_9 H (fun H => ?_) (fun H => ?_)
  · refine j_aload_n (dk dt_X12_kind 13 rfl) rfl ?_
    refine j_iload_n (dk dt_X12_kind 14 rfl) rfl ?_
    refine j_callS1 (dk dt_X12_kind 15 rfl) sl_X12_737 (T_X12_sheetAt r_x1 H) rfl (by decide) (Nat.zero_le _) (Nat.zero_le _) (Nat.le_of_ble_eq_true rfl) (fun v_23 h_23 P_23 => ?_)
    obtain ⟨x_23, rfl, r_23, rfl, H⟩ := P_23
    dsimp only [rs]
    refine jz_callV1 (dk dt_X12_kind 16 rfl) vl_X12_743 rfl (T_X12_needValues r_23 m_2 H) m_2.1.1 rfl (by decide) (Nat.zero_le _) (Nat.zero_le _) (Nat.le_of_ble_eq_true rfl) (fun v_26 h_26 P_26 => ?_)
    obtain ⟨u_26, rfl, m_26, H⟩ := P_26
    dsimp only [rs]
    refine j_aload_n (dk dt_X12_kind 17 rfl) rfl ?_
    refine jm_getA (dk dt_X12_kind 18 rfl) fl_X12_109 rfl (c := 14) rfl m_26 ?_
    refine j_iload (dk dt_X12_kind 19 rfl) rfl ?_
    obtain ⟨p_35, q_35, H⟩ := H
    refine jm_iald (dk dt_X12_kind 20 rfl) rfl rfl m_26 p_35 q_35 ?_
    exact j_ireturn (dk dt_X12_kind 21 rfl) rfl rfl ⟨_, _, rfl, (m_26.2.1.1 _ _), m_26, H⟩
  · refine j_iconst (v := Int32.ofInt (-1)) (dk dt_X12_kind 11 rfl) (by decide) ?_
    exact j_ireturn (dk dt_X12_kind 12 rfl) rfl rfl ⟨_, _, rfl, (by decide), m_2, H⟩
def F_X12_letter_75  (s0 : Int) (u : Mu) (P : Int → Mu → Prop) : Prop :=
  P s0 u
theorem T_X12_letter_75  {s0 : Int} {u : Mu} {P : Int → Mu → Prop} {h : Hp} {g : Nat → Nat} (r_s0 : R32 s0) (m : Ms h g u)   (H : F_X12_letter_75 s0 u P) : J mX12_letter 415 0 0 (nx (QMI g P)) 75 [none, none, none, none, none, none] [ii (s0)] h := by
  unfold F_X12_letter_75 at H
  exact j_ireturn (dk dt_X12_letter 43 rfl) rfl rfl ⟨_, _, rfl, r_s0, m, H⟩
def F_X12_letter_74  (u : Mu) (P : Int → Mu → Prop) : Prop :=
  F_X12_letter_75 (-1) u P
theorem T_X12_letter_74  {u : Mu} {P : Int → Mu → Prop} {h : Hp} {g : Nat → Nat}  (m : Ms h g u)   (H : F_X12_letter_74 u P) : J mX12_letter 415 0 0 (nx (QMI g P)) 74 [none, none, none, none, none, none] [] h := by
  unfold F_X12_letter_74 at H
  refine j_iconst (v := Int32.ofInt (-1)) (dk dt_X12_letter 42 rfl) (by decide) ?_
  exact j_el (T_X12_letter_75 (by decide) m   H) trivial
def F_X12_letter  (x1 : Int) (x2 : Int) (x3 : Int) (x4 : Int) (u : Mu) (P : Int → Mu → Prop) : Prop :=
  (∀ u_2, u_2 = uI u 0 0 0 → F_X12_asked x1 x2 x3 u_2 (fun x_9 => (if 0 ≤ x_9 then F_X12_sheetAt x1 (fun x_23 => F_X12_needValues x_23 u_2 (fun u_26 => (0 ≤ x_9 ∧ x_9 < 13120 ∧ (if mI u_26 60 x_9 = 2 then (0 ≤ x_9 ∧ x_9 < 13120 ∧ F_X12_in x4 0 (w32 ((mI u_26 62 x_9) - 1)) (fun x_52 => (if x_52 = 0 then F_X12_letter_74 u_26 P else (0 ≤ w32 (w32 (24 * x_9) + x4) ∧ w32 (w32 (24 * x_9) + x4) < 314880 ∧ F_X12_letter_75 (mI u_26 63 (w32 (w32 (24 * x_9) + x4))) u_26 P)))) else F_X12_letter_74 u_26 P)))) else P (-1) u_2)))
theorem T_X12_letter  {x1 : Int} {x2 : Int} {x3 : Int} {x4 : Int} {u : Mu} {P : Int → Mu → Prop} {h : Hp} {g : Nat → Nat} (r_x1 : R32 x1) (r_x2 : R32 x2) (r_x3 : R32 x3) (r_x4 : R32 x4) (m : Ms h g u)  (H : F_X12_letter x1 x2 x3 x4 u P) : Con mX12_letter 415 0 0 [vr (some (g 0)), ii (x1), ii (x2), ii (x3), ii (x4)] h (QMI g P) := by
  refine con_of rfl (Nat.le_of_ble_eq_true rfl) (by decide) ?_
  show J mX12_letter 415 0 0 _ 0 [some (vr (some (g 0))), some (ii (x1)), some (ii (x2)), some (ii (x3)), some (ii (x4)), none] [] h
  unfold F_X12_letter at H
  refine j_aload_n (dk dt_X12_letter 0 rfl) rfl ?_
  refine j_iconst (v := Int32.ofInt 0) (dk dt_X12_letter 1 rfl) (by decide) ?_
  refine jm_putI (kz := 0) (dk dt_X12_letter 2 rfl) fl_X12_202 rfl rfl rfl rfl m (by decide) (fun h_2 m_2 => ?_)
  replace H := H _ rfl
  refine j_aload_n (dk dt_X12_letter 3 rfl) rfl ?_
  refine j_iload_n (dk dt_X12_letter 4 rfl) rfl ?_
  refine j_iload_n (dk dt_X12_letter 5 rfl) rfl ?_
  refine j_iload_n (dk dt_X12_letter 6 rfl) rfl ?_
  refine jz_callV3 (dk dt_X12_letter 7 rfl) vl_X12_740 rfl (T_X12_asked r_x1 r_x2 r_x3 m_2 H) m_2.1.1 rfl (by decide) (Nat.zero_le _) (Nat.zero_le _) (Nat.le_of_ble_eq_true rfl) (fun v_9 h_9 P_9 => ?_)
  obtain ⟨x_9, rfl, r_9, rfl, H⟩ := P_9
  dsimp only [rs]
  refine j_istore (dk dt_X12_letter 8 rfl) (by decide) ?_
  refine j_iload (dk dt_X12_letter 9 rfl) rfl ?_
  refine jz_if_ge 21 (dk dt_X12_letter 10 rfl) (by decide) r_9 H (fun H => ?_) (fun H => ?_)
  · refine j_aload_n (dk dt_X12_letter 13 rfl) rfl ?_
    refine j_iload_n (dk dt_X12_letter 14 rfl) rfl ?_
    refine j_callS1 (dk dt_X12_letter 15 rfl) sl_X12_737 (T_X12_sheetAt r_x1 H) rfl (by decide) (Nat.zero_le _) (Nat.zero_le _) (Nat.le_of_ble_eq_true rfl) (fun v_23 h_23 P_23 => ?_)
    obtain ⟨x_23, rfl, r_23, rfl, H⟩ := P_23
    dsimp only [rs]
    refine jz_callV1 (dk dt_X12_letter 16 rfl) vl_X12_743 rfl (T_X12_needValues r_23 m_2 H) m_2.1.1 rfl (by decide) (Nat.zero_le _) (Nat.zero_le _) (Nat.le_of_ble_eq_true rfl) (fun v_26 h_26 P_26 => ?_)
    obtain ⟨u_26, rfl, m_26, H⟩ := P_26
    dsimp only [rs]
    refine j_aload_n (dk dt_X12_letter 17 rfl) rfl ?_
    refine jm_getA (dk dt_X12_letter 18 rfl) fl_X12_109 rfl (c := 14) rfl m_26 ?_
    refine j_iload (dk dt_X12_letter 19 rfl) rfl ?_
    obtain ⟨p_35, q_35, H⟩ := H
    refine jm_iald (dk dt_X12_letter 20 rfl) rfl rfl m_26 p_35 q_35 ?_
    refine j_iconst (v := Int32.ofInt 2) (dk dt_X12_letter 21 rfl) (by decide) ?_
    refine jz_icmp_ne 74 (dk dt_X12_letter 22 rfl) (by decide) (m_26.2.1.1 _ _) (by decide) H (fun H => ?_) (fun H => ?_)
    · refine j_iload (dk dt_X12_letter 23 rfl) rfl ?_
      refine j_iconst (v := Int32.ofInt 0) (dk dt_X12_letter 24 rfl) (by decide) ?_
      refine j_aload_n (dk dt_X12_letter 25 rfl) rfl ?_
      refine jm_getA (dk dt_X12_letter 26 rfl) fl_X12_115 rfl (c := 14) rfl m_26 ?_
      refine j_iload (dk dt_X12_letter 27 rfl) rfl ?_
      obtain ⟨p_49, q_49, H⟩ := H
      refine jm_iald (dk dt_X12_letter 28 rfl) rfl rfl m_26 p_49 q_49 ?_
      refine j_iconst (v := Int32.ofInt 1) (dk dt_X12_letter 29 rfl) (by decide) ?_
      refine jz_isub (dk dt_X12_letter 30 rfl) ?_
      refine j_callS3 (dk dt_X12_letter 31 rfl) sl_X12_220 (T_X12_in r_x4 (by decide) (r32_w _) H) rfl (by decide) (Nat.zero_le _) (Nat.zero_le _) (Nat.le_of_ble_eq_true rfl) (fun v_52 h_52 P_52 => ?_)
      obtain ⟨x_52, rfl, r_52, rfl, H⟩ := P_52
      dsimp only [rs]
      refine jz_if_eq 74 (dk dt_X12_letter 32 rfl) (by decide) r_52 H (fun H => ?_) (fun H => ?_)
      · exact j_el (T_X12_letter_74  m_26   H) trivial
      · refine j_aload_n (dk dt_X12_letter 33 rfl) rfl ?_
        refine jm_getA (dk dt_X12_letter 34 rfl) fl_X12_119 rfl (c := 13) rfl m_26 ?_
        refine j_bipush (v := Int32.ofInt 24) (dk dt_X12_letter 35 rfl) (by decide) ?_
        refine j_iload (dk dt_X12_letter 36 rfl) rfl ?_
        refine jz_imul (dk dt_X12_letter 37 rfl) ?_
        refine j_iload (dk dt_X12_letter 38 rfl) rfl ?_
        refine jz_iadd (dk dt_X12_letter 39 rfl) ?_
        obtain ⟨p_70, q_70, H⟩ := H
        refine jm_bald (dk dt_X12_letter 40 rfl) rfl rfl m_26 p_70 q_70 ?_
        refine j_goto 75 (dk dt_X12_letter 41 rfl) (by decide) ?_
        exact j_el (T_X12_letter_75 (m_26.2.1.1 _ _) m_26   H) trivial
    · exact j_el (T_X12_letter_74  m_26   H) trivial
  · refine j_iconst (v := Int32.ofInt (-1)) (dk dt_X12_letter 11 rfl) (by decide) ?_
    exact j_ireturn (dk dt_X12_letter 12 rfl) rfl rfl ⟨_, _, rfl, (by decide), m_2, H⟩
def F_X12_level_33  (P : Int → Prop) : Prop :=
  P 3
theorem T_X12_level_33  {P : Int → Prop} {h : Hp}     (H : F_X12_level_33 P) : J mX12_level 2 0 0 (nx (QPI h P)) 33 [none] [] h := by
  unfold F_X12_level_33 at H
  refine j_iconst (v := Int32.ofInt 3) (dk dt_X12_level 18 rfl) (by decide) ?_
  exact j_ireturn (dk dt_X12_level 19 rfl) rfl rfl ⟨_, rfl, (by decide), rfl, H⟩
def F_X12_level_62  (s0 : Int) (P : Int → Prop) : Prop :=
  P s0
theorem T_X12_level_62  {s0 : Int} {P : Int → Prop} {h : Hp} (r_s0 : R32 s0)    (H : F_X12_level_62 s0 P) : J mX12_level 2 0 0 (nx (QPI h P)) 62 [none] [ii (s0)] h := by
  unfold F_X12_level_62 at H
  exact j_ireturn (dk dt_X12_level 33 rfl) rfl rfl ⟨_, rfl, r_s0, rfl, H⟩
def F_X12_level  (x0 : Int) (P : Int → Prop) : Prop :=
  F_X12_in x0 10 15 (fun x_5 => (if x_5 = 0 then (if x0 = 16 then P 2 else (if x0 = 17 then F_X12_level_33  P else (if x0 = 18 then F_X12_level_33  P else F_X12_in x0 19 21 (fun x_40 => (if x_40 = 0 then (if x0 = 7 then F_X12_level_62 5 P else F_X12_level_62 6 P) else F_X12_level_62 4 P))))) else P 1))
theorem T_X12_level  {x0 : Int} {P : Int → Prop} {h : Hp} (r_x0 : R32 x0)   (H : F_X12_level x0 P) : Con mX12_level 2 0 0 [ii (x0)] h (QPI h P) := by
  refine con_of rfl (Nat.le_of_ble_eq_true rfl) (by decide) ?_
  show J mX12_level 2 0 0 _ 0 [some (ii (x0))] [] h
  unfold F_X12_level at H
  refine j_iload_n (dk dt_X12_level 0 rfl) rfl ?_
  refine j_bipush (v := Int32.ofInt 10) (dk dt_X12_level 1 rfl) (by decide) ?_
  refine j_bipush (v := Int32.ofInt 15) (dk dt_X12_level 2 rfl) (by decide) ?_
  refine j_callS3 (dk dt_X12_level 3 rfl) sl_X12_220 (T_X12_in r_x0 (by decide) (by decide) H) rfl (by decide) (Nat.zero_le _) (Nat.zero_le _) (Nat.le_of_ble_eq_true rfl) (fun v_5 h_5 P_5 => ?_)
  obtain ⟨x_5, rfl, r_5, rfl, H⟩ := P_5
  dsimp only [rs]
  refine jz_if_eq 13 (dk dt_X12_level 4 rfl) (by decide) r_5 H (fun H => ?_) (fun H => ?_)
  · refine j_iload_n (dk dt_X12_level 7 rfl) rfl ?_
    refine j_bipush (v := Int32.ofInt 16) (dk dt_X12_level 8 rfl) (by decide) ?_
    refine jz_icmp_ne 21 (dk dt_X12_level 9 rfl) (by decide) r_x0 (by decide) H (fun H => ?_) (fun H => ?_)
    · refine j_iconst (v := Int32.ofInt 2) (dk dt_X12_level 10 rfl) (by decide) ?_
      exact j_ireturn (dk dt_X12_level 11 rfl) rfl rfl ⟨_, rfl, (by decide), rfl, H⟩
    · refine j_iload_n (dk dt_X12_level 12 rfl) rfl ?_
      refine j_bipush (v := Int32.ofInt 17) (dk dt_X12_level 13 rfl) (by decide) ?_
      refine jz_icmp_eq 33 (dk dt_X12_level 14 rfl) (by decide) r_x0 (by decide) H (fun H => ?_) (fun H => ?_)
      · exact j_el (T_X12_level_33     H) trivial
      · refine j_iload_n (dk dt_X12_level 15 rfl) rfl ?_
        refine j_bipush (v := Int32.ofInt 18) (dk dt_X12_level 16 rfl) (by decide) ?_
        refine jz_icmp_ne 35 (dk dt_X12_level 17 rfl) (by decide) r_x0 (by decide) H (fun H => ?_) (fun H => ?_)
        · exact j_el (T_X12_level_33     H) trivial
        · refine j_iload_n (dk dt_X12_level 20 rfl) rfl ?_
          refine j_bipush (v := Int32.ofInt 19) (dk dt_X12_level 21 rfl) (by decide) ?_
          refine j_bipush (v := Int32.ofInt 21) (dk dt_X12_level 22 rfl) (by decide) ?_
          refine j_callS3 (dk dt_X12_level 23 rfl) sl_X12_220 (T_X12_in r_x0 (by decide) (by decide) H) rfl (by decide) (Nat.zero_le _) (Nat.zero_le _) (Nat.le_of_ble_eq_true rfl) (fun v_40 h_40 P_40 => ?_)
          obtain ⟨x_40, rfl, r_40, rfl, H⟩ := P_40
          dsimp only [rs]
          refine jz_if_eq 50 (dk dt_X12_level 24 rfl) (by decide) r_40 H (fun H => ?_) (fun H => ?_)
          · refine j_iload_n (dk dt_X12_level 27 rfl) rfl ?_
            refine j_bipush (v := Int32.ofInt 7) (dk dt_X12_level 28 rfl) (by decide) ?_
            refine jz_icmp_ne 60 (dk dt_X12_level 29 rfl) (by decide) r_x0 (by decide) H (fun H => ?_) (fun H => ?_)
            · refine j_iconst (v := Int32.ofInt 5) (dk dt_X12_level 30 rfl) (by decide) ?_
              refine j_goto 62 (dk dt_X12_level 31 rfl) (by decide) ?_
              exact j_el (T_X12_level_62 (by decide)    H) trivial
            · refine j_bipush (v := Int32.ofInt 6) (dk dt_X12_level 32 rfl) (by decide) ?_
              exact j_el (T_X12_level_62 (by decide)    H) trivial
          · refine j_iconst (v := Int32.ofInt 4) (dk dt_X12_level 25 rfl) (by decide) ?_
            refine j_goto 62 (dk dt_X12_level 26 rfl) (by decide) ?_
            exact j_el (T_X12_level_62 (by decide)    H) trivial
  · refine j_iconst (v := Int32.ofInt 1) (dk dt_X12_level 5 rfl) (by decide) ?_
    exact j_ireturn (dk dt_X12_level 6 rfl) rfl rfl ⟨_, rfl, (by decide), rfl, H⟩
def F_X12_lineConflicts_113  (x1 : Int) (x2 : Int) (x3 : Int) (x4 : Int) (u : Mu) (P : (Int × Mu) ⊕ ((Mu)) → Prop) : Prop :=
  P (.inl (w32 (x4 + 1), u))
theorem T_X12_lineConflicts_113  {x1 : Int} {x2 : Int} {x3 : Int} {x4 : Int} {u : Mu} {P : (Int × Mu) ⊕ ((Mu)) → Prop} {h : Hp} {g : Nat → Nat} {post : Option Sv ⊕ String → Hp → Prop} (r_x1 : R32 x1) (r_x2 : R32 x2) (r_x3 : R32 x3) (r_x4 : R32 x4) (m : Ms h g u)  (hl : ∀ (x4 : Int) (u : Mu) (h : Hp), P (.inl (x4, u)) → Ms h g u → R32 x4 → J mX12_lineConflicts 3 0 0 post 3 [some (vr (some (g 0))), some (ii (x1)), some (ii (x2)), some (ii (x3)), some (ii (x4)), none, none, none] [] h) (he0 : ∀ (u : Mu) (h : Hp), P (.inr u) → Ms h g u → J mX12_lineConflicts 3 0 0 post 119 [none, none, none, none, none, none, none, none] [] h) (H : F_X12_lineConflicts_113 x1 x2 x3 x4 u P) : J mX12_lineConflicts 3 0 0 (post) 113 [some (vr (some (g 0))), some (ii (x1)), some (ii (x2)), some (ii (x3)), some (ii (x4)), none, none, none] [] h := by
  unfold F_X12_lineConflicts_113 at H
  refine jz_iinc (dk dt_X12_lineConflicts 60 rfl) rfl ?_
  refine j_goto 3 (dk dt_X12_lineConflicts 61 rfl) (by decide) ?_
  exact j_el (hl _ _ _ H m (r32_w _)) (And.intro rfl (And.intro rfl (And.intro rfl (And.intro rfl (And.intro rfl trivial)))))
def F_X12_lineConflicts_108  (x1 : Int) (x2 : Int) (x3 : Int) (x4 : Int) (x6 : Int) (s1 : Int) (s2 : Int) (s3 : Int) (u : Mu) (P : (Int × Mu) ⊕ ((Mu)) → Prop) : Prop :=
  F_X12_clash s1 s2 s3 x6 u (fun u_110 => F_X12_lineConflicts_113 x1 x2 x3 x4 u_110 P)
theorem T_X12_lineConflicts_108  {x1 : Int} {x2 : Int} {x3 : Int} {x4 : Int} {x6 : Int} {s1 : Int} {s2 : Int} {s3 : Int} {u : Mu} {P : (Int × Mu) ⊕ ((Mu)) → Prop} {h : Hp} {g : Nat → Nat} {post : Option Sv ⊕ String → Hp → Prop} (r_x1 : R32 x1) (r_x2 : R32 x2) (r_x3 : R32 x3) (r_x4 : R32 x4) (r_x6 : R32 x6) (r_s1 : R32 s1) (r_s2 : R32 s2) (r_s3 : R32 s3) (m : Ms h g u)  (hl : ∀ (x4 : Int) (u : Mu) (h : Hp), P (.inl (x4, u)) → Ms h g u → R32 x4 → J mX12_lineConflicts 3 0 0 post 3 [some (vr (some (g 0))), some (ii (x1)), some (ii (x2)), some (ii (x3)), some (ii (x4)), none, none, none] [] h) (he0 : ∀ (u : Mu) (h : Hp), P (.inr u) → Ms h g u → J mX12_lineConflicts 3 0 0 post 119 [none, none, none, none, none, none, none, none] [] h) (H : F_X12_lineConflicts_108 x1 x2 x3 x4 x6 s1 s2 s3 u P) : J mX12_lineConflicts 3 0 0 (post) 108 [some (vr (some (g 0))), some (ii (x1)), some (ii (x2)), some (ii (x3)), some (ii (x4)), none, some (ii (x6)), none] [ii (s3), ii (s2), ii (s1), vr (some (g 0))] h := by
  unfold F_X12_lineConflicts_108 at H
  refine j_iload (dk dt_X12_lineConflicts 58 rfl) rfl ?_
  refine jz_callV4 (dk dt_X12_lineConflicts 59 rfl) vl_X12_913 rfl (T_X12_clash r_s1 r_s2 r_s3 r_x6 m H) m.1.1 rfl (by decide) (Nat.zero_le _) (Nat.zero_le _) (Nat.le_of_ble_eq_true rfl) (fun v_110 h_110 P_110 => ?_)
  obtain ⟨u_110, rfl, m_110, H⟩ := P_110
  dsimp only [rs]
  exact j_el (T_X12_lineConflicts_113 r_x1 r_x2 r_x3 r_x4 m_110  hl he0 H) (And.intro rfl (And.intro rfl (And.intro rfl (And.intro rfl (And.intro rfl trivial)))))
def F_X12_lineConflicts_98  (x1 : Int) (x2 : Int) (x3 : Int) (x4 : Int) (x5 : Int) (x6 : Int) (s1 : Int) (s2 : Int) (u : Mu) (P : (Int × Mu) ⊕ ((Mu)) → Prop) : Prop :=
  (if x3 = 0 then F_X12_lineConflicts_108 x1 x2 x3 x4 x6 s1 s2 (-1) u P else F_X12_lineConflicts_108 x1 x2 x3 x4 x6 s1 s2 x5 u P)
theorem T_X12_lineConflicts_98  {x1 : Int} {x2 : Int} {x3 : Int} {x4 : Int} {x5 : Int} {x6 : Int} {s1 : Int} {s2 : Int} {u : Mu} {P : (Int × Mu) ⊕ ((Mu)) → Prop} {h : Hp} {g : Nat → Nat} {post : Option Sv ⊕ String → Hp → Prop} (r_x1 : R32 x1) (r_x2 : R32 x2) (r_x3 : R32 x3) (r_x4 : R32 x4) (r_x5 : R32 x5) (r_x6 : R32 x6) (r_s1 : R32 s1) (r_s2 : R32 s2) (m : Ms h g u)  (hl : ∀ (x4 : Int) (u : Mu) (h : Hp), P (.inl (x4, u)) → Ms h g u → R32 x4 → J mX12_lineConflicts 3 0 0 post 3 [some (vr (some (g 0))), some (ii (x1)), some (ii (x2)), some (ii (x3)), some (ii (x4)), none, none, none] [] h) (he0 : ∀ (u : Mu) (h : Hp), P (.inr u) → Ms h g u → J mX12_lineConflicts 3 0 0 post 119 [none, none, none, none, none, none, none, none] [] h) (H : F_X12_lineConflicts_98 x1 x2 x3 x4 x5 x6 s1 s2 u P) : J mX12_lineConflicts 3 0 0 (post) 98 [some (vr (some (g 0))), some (ii (x1)), some (ii (x2)), some (ii (x3)), some (ii (x4)), some (ii (x5)), some (ii (x6)), none] [ii (s2), ii (s1), vr (some (g 0))] h := by
  unfold F_X12_lineConflicts_98 at H
  refine j_iload_n (dk dt_X12_lineConflicts 53 rfl) rfl ?_
  refine jz_if_ne 106 (dk dt_X12_lineConflicts 54 rfl) (by decide) r_x3 H (fun H => ?_) (fun H => ?_)
  · refine j_iconst (v := Int32.ofInt (-1)) (dk dt_X12_lineConflicts 55 rfl) (by decide) ?_
    refine j_goto 108 (dk dt_X12_lineConflicts 56 rfl) (by decide) ?_
    exact j_el (T_X12_lineConflicts_108 r_x1 r_x2 r_x3 r_x4 r_x6 r_s1 r_s2 (by decide) m  hl he0 H) (And.intro rfl (And.intro rfl (And.intro rfl (And.intro rfl (And.intro rfl (And.intro rfl trivial))))))
  · refine j_iload (dk dt_X12_lineConflicts 57 rfl) rfl ?_
    exact j_el (T_X12_lineConflicts_108 r_x1 r_x2 r_x3 r_x4 r_x6 r_s1 r_s2 r_x5 m  hl he0 H) (And.intro rfl (And.intro rfl (And.intro rfl (And.intro rfl (And.intro rfl (And.intro rfl trivial))))))
def F_X12_lineConflicts_66  (x1 : Int) (x2 : Int) (x3 : Int) (x4 : Int) (x5 : Int) (x6 : Int) (s0 : Int) (u : Mu) (P : (Int × Mu) ⊕ ((Mu)) → Prop) : Prop :=
  (if s0 = 0 then F_X12_placeOf x2 x3 x5 u (fun x_78 => (if x_78 < 0 then F_X12_lineConflicts_113 x1 x2 x3 x4 u P else (if x3 = 0 then F_X12_lineConflicts_98 x1 x2 x3 x4 x5 x6 (w32 (x3 + 1)) x5 u P else F_X12_lineConflicts_98 x1 x2 x3 x4 x5 x6 (w32 (x3 + 1)) (-1) u P))) else F_X12_lineConflicts_113 x1 x2 x3 x4 u P)
theorem T_X12_lineConflicts_66  {x1 : Int} {x2 : Int} {x3 : Int} {x4 : Int} {x5 : Int} {x6 : Int} {s0 : Int} {u : Mu} {P : (Int × Mu) ⊕ ((Mu)) → Prop} {h : Hp} {g : Nat → Nat} {post : Option Sv ⊕ String → Hp → Prop} (r_x1 : R32 x1) (r_x2 : R32 x2) (r_x3 : R32 x3) (r_x4 : R32 x4) (r_x5 : R32 x5) (r_x6 : R32 x6) (r_s0 : R32 s0) (m : Ms h g u)  (hl : ∀ (x4 : Int) (u : Mu) (h : Hp), P (.inl (x4, u)) → Ms h g u → R32 x4 → J mX12_lineConflicts 3 0 0 post 3 [some (vr (some (g 0))), some (ii (x1)), some (ii (x2)), some (ii (x3)), some (ii (x4)), none, none, none] [] h) (he0 : ∀ (u : Mu) (h : Hp), P (.inr u) → Ms h g u → J mX12_lineConflicts 3 0 0 post 119 [none, none, none, none, none, none, none, none] [] h) (H : F_X12_lineConflicts_66 x1 x2 x3 x4 x5 x6 s0 u P) : J mX12_lineConflicts 3 0 0 (post) 66 [some (vr (some (g 0))), some (ii (x1)), some (ii (x2)), some (ii (x3)), some (ii (x4)), some (ii (x5)), some (ii (x6)), none] [ii (s0)] h := by
  unfold F_X12_lineConflicts_66 at H
  refine j_istore (dk dt_X12_lineConflicts 35 rfl) (by decide) ?_
  refine j_iload (dk dt_X12_lineConflicts 36 rfl) rfl ?_
  refine jz_if_ne 113 (dk dt_X12_lineConflicts 37 rfl) (by decide) r_s0 H (fun H => ?_) (fun H => ?_)
  · refine j_aload_n (dk dt_X12_lineConflicts 38 rfl) rfl ?_
    refine j_iload_n (dk dt_X12_lineConflicts 39 rfl) rfl ?_
    refine j_iload_n (dk dt_X12_lineConflicts 40 rfl) rfl ?_
    refine j_iload (dk dt_X12_lineConflicts 41 rfl) rfl ?_
    refine jz_callV3 (dk dt_X12_lineConflicts 42 rfl) vl_X12_217 rfl (T_X12_placeOf r_x2 r_x3 r_x5 m H) m.1.1 rfl (by decide) (Nat.zero_le _) (Nat.zero_le _) (Nat.le_of_ble_eq_true rfl) (fun v_78 h_78 P_78 => ?_)
    obtain ⟨x_78, rfl, r_78, rfl, H⟩ := P_78
    dsimp only [rs]
    refine jz_if_lt 113 (dk dt_X12_lineConflicts 43 rfl) (by decide) r_78 H (fun H => ?_) (fun H => ?_)
    · exact j_el (T_X12_lineConflicts_113 r_x1 r_x2 r_x3 r_x4 m  hl he0 H) (And.intro rfl (And.intro rfl (And.intro rfl (And.intro rfl (And.intro rfl trivial)))))
    · refine j_aload_n (dk dt_X12_lineConflicts 44 rfl) rfl ?_
      refine j_iload_n (dk dt_X12_lineConflicts 45 rfl) rfl ?_
      refine j_iconst (v := Int32.ofInt 1) (dk dt_X12_lineConflicts 46 rfl) (by decide) ?_
      refine jz_iadd (dk dt_X12_lineConflicts 47 rfl) ?_
      refine j_iload_n (dk dt_X12_lineConflicts 48 rfl) rfl ?_
      refine jz_if_ne 97 (dk dt_X12_lineConflicts 49 rfl) (by decide) r_x3 H (fun H => ?_) (fun H => ?_)
      · refine j_iload (dk dt_X12_lineConflicts 50 rfl) rfl ?_
        refine j_goto 98 (dk dt_X12_lineConflicts 51 rfl) (by decide) ?_
        exact j_el (T_X12_lineConflicts_98 r_x1 r_x2 r_x3 r_x4 r_x5 r_x6 (r32_w _) r_x5 m  hl he0 H) (And.intro rfl (And.intro rfl (And.intro rfl (And.intro rfl (And.intro rfl (And.intro rfl (And.intro rfl trivial)))))))
      · refine j_iconst (v := Int32.ofInt (-1)) (dk dt_X12_lineConflicts 52 rfl) (by decide) ?_
        exact j_el (T_X12_lineConflicts_98 r_x1 r_x2 r_x3 r_x4 r_x5 r_x6 (r32_w _) (by decide) m  hl he0 H) (And.intro rfl (And.intro rfl (And.intro rfl (And.intro rfl (And.intro rfl (And.intro rfl (And.intro rfl trivial)))))))
  · exact j_el (T_X12_lineConflicts_113 r_x1 r_x2 r_x3 r_x4 m  hl he0 H) (And.intro rfl (And.intro rfl (And.intro rfl (And.intro rfl (And.intro rfl trivial)))))
def F_X12_lineConflicts_65  (x1 : Int) (x2 : Int) (x3 : Int) (x4 : Int) (x5 : Int) (x6 : Int) (u : Mu) (P : (Int × Mu) ⊕ ((Mu)) → Prop) : Prop :=
  F_X12_lineConflicts_66 x1 x2 x3 x4 x5 x6 0 u P
theorem T_X12_lineConflicts_65  {x1 : Int} {x2 : Int} {x3 : Int} {x4 : Int} {x5 : Int} {x6 : Int} {u : Mu} {P : (Int × Mu) ⊕ ((Mu)) → Prop} {h : Hp} {g : Nat → Nat} {post : Option Sv ⊕ String → Hp → Prop} (r_x1 : R32 x1) (r_x2 : R32 x2) (r_x3 : R32 x3) (r_x4 : R32 x4) (r_x5 : R32 x5) (r_x6 : R32 x6) (m : Ms h g u)  (hl : ∀ (x4 : Int) (u : Mu) (h : Hp), P (.inl (x4, u)) → Ms h g u → R32 x4 → J mX12_lineConflicts 3 0 0 post 3 [some (vr (some (g 0))), some (ii (x1)), some (ii (x2)), some (ii (x3)), some (ii (x4)), none, none, none] [] h) (he0 : ∀ (u : Mu) (h : Hp), P (.inr u) → Ms h g u → J mX12_lineConflicts 3 0 0 post 119 [none, none, none, none, none, none, none, none] [] h) (H : F_X12_lineConflicts_65 x1 x2 x3 x4 x5 x6 u P) : J mX12_lineConflicts 3 0 0 (post) 65 [some (vr (some (g 0))), some (ii (x1)), some (ii (x2)), some (ii (x3)), some (ii (x4)), some (ii (x5)), some (ii (x6)), none] [] h := by
  unfold F_X12_lineConflicts_65 at H
  refine j_iconst (v := Int32.ofInt 0) (dk dt_X12_lineConflicts 34 rfl) (by decide) ?_
  exact j_el (T_X12_lineConflicts_66 r_x1 r_x2 r_x3 r_x4 r_x5 r_x6 (by decide) m  hl he0 H) (And.intro rfl (And.intro rfl (And.intro rfl (And.intro rfl (And.intro rfl (And.intro rfl (And.intro rfl trivial)))))))
def F_X12_lineConflicts_43  (x1 : Int) (x2 : Int) (x3 : Int) (x4 : Int) (x5 : Int) (s0 : Int) (u : Mu) (P : (Int × Mu) ⊕ ((Mu)) → Prop) : Prop :=
  (if s0 = 0 then F_X12_lineConflicts_65 x1 x2 x3 x4 x5 s0 u P else F_X12_placeOf x1 x3 x5 u (fun x_55 => (if x_55 < 0 then F_X12_lineConflicts_65 x1 x2 x3 x4 x5 s0 u P else F_X12_lineConflicts_66 x1 x2 x3 x4 x5 s0 1 u P)))
theorem T_X12_lineConflicts_43  {x1 : Int} {x2 : Int} {x3 : Int} {x4 : Int} {x5 : Int} {s0 : Int} {u : Mu} {P : (Int × Mu) ⊕ ((Mu)) → Prop} {h : Hp} {g : Nat → Nat} {post : Option Sv ⊕ String → Hp → Prop} (r_x1 : R32 x1) (r_x2 : R32 x2) (r_x3 : R32 x3) (r_x4 : R32 x4) (r_x5 : R32 x5) (r_s0 : R32 s0) (m : Ms h g u)  (hl : ∀ (x4 : Int) (u : Mu) (h : Hp), P (.inl (x4, u)) → Ms h g u → R32 x4 → J mX12_lineConflicts 3 0 0 post 3 [some (vr (some (g 0))), some (ii (x1)), some (ii (x2)), some (ii (x3)), some (ii (x4)), none, none, none] [] h) (he0 : ∀ (u : Mu) (h : Hp), P (.inr u) → Ms h g u → J mX12_lineConflicts 3 0 0 post 119 [none, none, none, none, none, none, none, none] [] h) (H : F_X12_lineConflicts_43 x1 x2 x3 x4 x5 s0 u P) : J mX12_lineConflicts 3 0 0 (post) 43 [some (vr (some (g 0))), some (ii (x1)), some (ii (x2)), some (ii (x3)), some (ii (x4)), some (ii (x5)), none, none] [ii (s0)] h := by
  unfold F_X12_lineConflicts_43 at H
  refine j_istore (dk dt_X12_lineConflicts 23 rfl) (by decide) ?_
  refine j_iload (dk dt_X12_lineConflicts 24 rfl) rfl ?_
  refine jz_if_eq 65 (dk dt_X12_lineConflicts 25 rfl) (by decide) r_s0 H (fun H => ?_) (fun H => ?_)
  · exact j_el (T_X12_lineConflicts_65 r_x1 r_x2 r_x3 r_x4 r_x5 r_s0 m  hl he0 H) (And.intro rfl (And.intro rfl (And.intro rfl (And.intro rfl (And.intro rfl (And.intro rfl (And.intro rfl trivial)))))))
  · refine j_aload_n (dk dt_X12_lineConflicts 26 rfl) rfl ?_
    refine j_iload_n (dk dt_X12_lineConflicts 27 rfl) rfl ?_
    refine j_iload_n (dk dt_X12_lineConflicts 28 rfl) rfl ?_
    refine j_iload (dk dt_X12_lineConflicts 29 rfl) rfl ?_
    refine jz_callV3 (dk dt_X12_lineConflicts 30 rfl) vl_X12_217 rfl (T_X12_placeOf r_x1 r_x3 r_x5 m H) m.1.1 rfl (by decide) (Nat.zero_le _) (Nat.zero_le _) (Nat.le_of_ble_eq_true rfl) (fun v_55 h_55 P_55 => ?_)
    obtain ⟨x_55, rfl, r_55, rfl, H⟩ := P_55
    dsimp only [rs]
    refine jz_if_lt 65 (dk dt_X12_lineConflicts 31 rfl) (by decide) r_55 H (fun H => ?_) (fun H => ?_)
    · exact j_el (T_X12_lineConflicts_65 r_x1 r_x2 r_x3 r_x4 r_x5 r_s0 m  hl he0 H) (And.intro rfl (And.intro rfl (And.intro rfl (And.intro rfl (And.intro rfl (And.intro rfl (And.intro rfl trivial)))))))
    · refine j_iconst (v := Int32.ofInt 1) (dk dt_X12_lineConflicts 32 rfl) (by decide) ?_
      refine j_goto 66 (dk dt_X12_lineConflicts 33 rfl) (by decide) ?_
      exact j_el (T_X12_lineConflicts_66 r_x1 r_x2 r_x3 r_x4 r_x5 r_s0 (by decide) m  hl he0 H) (And.intro rfl (And.intro rfl (And.intro rfl (And.intro rfl (And.intro rfl (And.intro rfl (And.intro rfl trivial)))))))
def L_X12_lineConflicts_3  (x1 : Int) (x2 : Int) (x3 : Int) (x4 : Int) (u : Mu) (P : (Int × Mu) ⊕ ((Mu)) → Prop) : Prop :=
  F_X12_linesOf 121 x3 u (fun x_9 => (if x_9 ≤ x4 then P (.inr u) else F_X12_lineAt 121 x3 x4 u (fun x_21 => F_X12_placeOf 40 x3 x_21 u (fun x_32 => (if x_32 < 0 then F_X12_lineConflicts_43 x1 x2 x3 x4 x_21 0 u P else F_X12_lineConflicts_43 x1 x2 x3 x4 x_21 1 u P)))))
theorem U_X12_lineConflicts_3  {x1 : Int} {x2 : Int} {x3 : Int} {x4 : Int} {u : Mu} {P : (Int × Mu) ⊕ ((Mu)) → Prop} {h : Hp} {g : Nat → Nat} {post : Option Sv ⊕ String → Hp → Prop} (r_x1 : R32 x1) (r_x2 : R32 x2) (r_x3 : R32 x3) (r_x4 : R32 x4) (m : Ms h g u)  (hl : ∀ (x4 : Int) (u : Mu) (h : Hp), P (.inl (x4, u)) → Ms h g u → R32 x4 → J mX12_lineConflicts 3 0 0 post 3 [some (vr (some (g 0))), some (ii (x1)), some (ii (x2)), some (ii (x3)), some (ii (x4)), none, none, none] [] h) (he0 : ∀ (u : Mu) (h : Hp), P (.inr u) → Ms h g u → J mX12_lineConflicts 3 0 0 post 119 [none, none, none, none, none, none, none, none] [] h) (H : L_X12_lineConflicts_3 x1 x2 x3 x4 u P) : J mX12_lineConflicts 3 0 0 post 3 [some (vr (some (g 0))), some (ii (x1)), some (ii (x2)), some (ii (x3)), some (ii (x4)), none, none, none] [] h := by
  unfold L_X12_lineConflicts_3 at H
  refine j_iload (dk dt_X12_lineConflicts 2 rfl) rfl ?_
  refine j_aload_n (dk dt_X12_lineConflicts 3 rfl) rfl ?_
  refine j_bipush (v := Int32.ofInt 121) (dk dt_X12_lineConflicts 4 rfl) (by decide) ?_
  refine j_iload_n (dk dt_X12_lineConflicts 5 rfl) rfl ?_
  refine jz_callV2 (dk dt_X12_lineConflicts 6 rfl) vl_X12_209 rfl (T_X12_linesOf (by decide) r_x3 m H) m.1.1 rfl (by decide) (Nat.zero_le _) (Nat.zero_le _) (Nat.le_of_ble_eq_true rfl) (fun v_9 h_9 P_9 => ?_)
  obtain ⟨x_9, rfl, r_9, rfl, H⟩ := P_9
  dsimp only [rs]
  refine jz_icmp_ge 119 (dk dt_X12_lineConflicts 7 rfl) (by decide) r_x4 r_9 H (fun H => ?_) (fun H => ?_)
  · exact j_el (he0 _ _ H m) trivial
  · refine j_aload_n (dk dt_X12_lineConflicts 8 rfl) rfl ?_
    refine j_bipush (v := Int32.ofInt 121) (dk dt_X12_lineConflicts 9 rfl) (by decide) ?_
    refine j_iload_n (dk dt_X12_lineConflicts 10 rfl) rfl ?_
    refine j_iload (dk dt_X12_lineConflicts 11 rfl) rfl ?_
    refine jz_callV3 (dk dt_X12_lineConflicts 12 rfl) vl_X12_213 rfl (T_X12_lineAt (by decide) r_x3 r_x4 m H) m.1.1 rfl (by decide) (Nat.zero_le _) (Nat.zero_le _) (Nat.le_of_ble_eq_true rfl) (fun v_21 h_21 P_21 => ?_)
    obtain ⟨x_21, rfl, r_21, rfl, H⟩ := P_21
    dsimp only [rs]
    refine j_istore (dk dt_X12_lineConflicts 13 rfl) (by decide) ?_
    refine j_aload_n (dk dt_X12_lineConflicts 14 rfl) rfl ?_
    refine j_bipush (v := Int32.ofInt 40) (dk dt_X12_lineConflicts 15 rfl) (by decide) ?_
    refine j_iload_n (dk dt_X12_lineConflicts 16 rfl) rfl ?_
    refine j_iload (dk dt_X12_lineConflicts 17 rfl) rfl ?_
    refine jz_callV3 (dk dt_X12_lineConflicts 18 rfl) vl_X12_217 rfl (T_X12_placeOf (by decide) r_x3 r_21 m H) m.1.1 rfl (by decide) (Nat.zero_le _) (Nat.zero_le _) (Nat.le_of_ble_eq_true rfl) (fun v_32 h_32 P_32 => ?_)
    obtain ⟨x_32, rfl, r_32, rfl, H⟩ := P_32
    dsimp only [rs]
    refine jz_if_lt 42 (dk dt_X12_lineConflicts 19 rfl) (by decide) r_32 H (fun H => ?_) (fun H => ?_)
    · refine j_iconst (v := Int32.ofInt 0) (dk dt_X12_lineConflicts 22 rfl) (by decide) ?_
      exact j_el (T_X12_lineConflicts_43 r_x1 r_x2 r_x3 r_x4 r_21 (by decide) m  hl he0 H) (And.intro rfl (And.intro rfl (And.intro rfl (And.intro rfl (And.intro rfl (And.intro rfl trivial))))))
    · refine j_iconst (v := Int32.ofInt 1) (dk dt_X12_lineConflicts 20 rfl) (by decide) ?_
      refine j_goto 43 (dk dt_X12_lineConflicts 21 rfl) (by decide) ?_
      exact j_el (T_X12_lineConflicts_43 r_x1 r_x2 r_x3 r_x4 r_21 (by decide) m  hl he0 H) (And.intro rfl (And.intro rfl (And.intro rfl (And.intro rfl (And.intro rfl (And.intro rfl trivial))))))
def F_X12_lineConflicts_3  (x1 : Int) (x2 : Int) (x3 : Int) (x4 : Int) (u : Mu) (P : Mu → Prop) : Prop :=
  lp (S := Int × Mu) (E := (Mu)) (fun q P_ => L_X12_lineConflicts_3 x1 x2 x3 q.1 q.2 P_) (x4, u) (fun (u : Mu) => P u)
theorem T_X12_lineConflicts_3  {x1 : Int} {x2 : Int} {x3 : Int} {x4 : Int} {u : Mu} {P : Mu → Prop} {h : Hp} {g : Nat → Nat} (r_x1 : R32 x1) (r_x2 : R32 x2) (r_x3 : R32 x3) (r_x4 : R32 x4) (m : Ms h g u)   (H : F_X12_lineConflicts_3 x1 x2 x3 x4 u P) : J mX12_lineConflicts 3 0 0 (nx (QMV g P)) 3 [some (vr (some (g 0))), some (ii (x1)), some (ii (x2)), some (ii (x3)), some (ii (x4)), none, none, none] [] h := by
  unfold F_X12_lineConflicts_3 at H
  refine lp_J (G := fun q => ∀ h : Hp, Ms h g (q.2) → R32 (q.1) → J mX12_lineConflicts 3 0 0 (nx (QMV g P)) 3 [some (vr (some (g 0))), some (ii (x1)), some (ii (x2)), some (ii (x3)), some (ii ((q.1))), none, none, none] [] h) (fun q P_ hl_ he_ Hb => ?_) (x4, u) H _ m r_x4
  obtain ⟨x4, u⟩ := q
  intro h m r_x4
  refine U_X12_lineConflicts_3 (P := P_) r_x1 r_x2 r_x3 r_x4 m  (fun x4 u h Hp m r_x4 => hl_ (x4, u) Hp h m r_x4) ?_ Hb
  · intro u h Hp m
    have H := he_ _ Hp
    exact j_return (dk dt_X12_lineConflicts 62 rfl) rfl ⟨_, rfl, m, H⟩
def F_X12_lineConflicts  (x1 : Int) (x2 : Int) (x3 : Int) (u : Mu) (P : Mu → Prop) : Prop :=
  F_X12_lineConflicts_3 x1 x2 x3 0 u P
theorem T_X12_lineConflicts  {x1 : Int} {x2 : Int} {x3 : Int} {u : Mu} {P : Mu → Prop} {h : Hp} {g : Nat → Nat} (r_x1 : R32 x1) (r_x2 : R32 x2) (r_x3 : R32 x3) (m : Ms h g u)  (H : F_X12_lineConflicts x1 x2 x3 u P) : Con mX12_lineConflicts 3 0 0 [vr (some (g 0)), ii (x1), ii (x2), ii (x3)] h (QMV g P) := by
  refine con_of rfl (Nat.le_of_ble_eq_true rfl) (by decide) ?_
  show J mX12_lineConflicts 3 0 0 _ 0 [some (vr (some (g 0))), some (ii (x1)), some (ii (x2)), some (ii (x3)), none, none, none, none] [] h
  unfold F_X12_lineConflicts at H
  refine j_iconst (v := Int32.ofInt 0) (dk dt_X12_lineConflicts 0 rfl) (by decide) ?_
  refine j_istore (dk dt_X12_lineConflicts 1 rfl) (by decide) ?_
  exact j_el (T_X12_lineConflicts_3 r_x1 r_x2 r_x3 (by decide) m   H) (And.intro rfl (And.intro rfl (And.intro rfl (And.intro rfl (And.intro rfl trivial)))))
def F_X12_newCell_174  (x3 : Int) (x4 : Int) (x10 : Int) (u : Mu) (P : Mu → Prop) : Prop :=
  (0 ≤ w32 (w32 (38720 + (w32 (10 * x3))) + x4) ∧ w32 (w32 (38720 + (w32 (10 * x3))) + x4) < 39040 ∧ (∀ u_191, u_191 = uI u 5 (w32 (w32 (38720 + (w32 (10 * x3))) + x4)) x10 → P u_191))
theorem T_X12_newCell_174  {x3 : Int} {x4 : Int} {x10 : Int} {u : Mu} {P : Mu → Prop} {h : Hp} {g : Nat → Nat} (r_x3 : R32 x3) (r_x4 : R32 x4) (r_x10 : R32 x10) (m : Ms h g u)   (H : F_X12_newCell_174 x3 x4 x10 u P) : J mX12_newCell 4 0 0 (nx (QMV g P)) 174 [some (vr (some (g 0))), none, none, some (ii (x3)), some (ii (x4)), none, none, none, none, none, some (ii (x10))] [] h := by
  unfold F_X12_newCell_174 at H
  refine j_aload_n (dk dt_X12_newCell 89 rfl) rfl ?_
  refine jm_getA (dk dt_X12_newCell 90 rfl) fl_X12_23 rfl (c := 14) rfl m ?_
  refine j_ldcw (v := Int32.ofInt (38720)) (dk dt_X12_newCell 91 rfl) (by exact kl_X12_917) ?_
  refine j_bipush (v := Int32.ofInt 10) (dk dt_X12_newCell 92 rfl) (by decide) ?_
  refine j_iload_n (dk dt_X12_newCell 93 rfl) rfl ?_
  refine jz_imul (dk dt_X12_newCell 94 rfl) ?_
  refine jz_iadd (dk dt_X12_newCell 95 rfl) ?_
  refine j_iload (dk dt_X12_newCell 96 rfl) rfl ?_
  refine jz_iadd (dk dt_X12_newCell 97 rfl) ?_
  refine j_iload (dk dt_X12_newCell 98 rfl) rfl ?_
  obtain ⟨p_191, q_191, H⟩ := H
  refine jm_iast (dk dt_X12_newCell 99 rfl) rfl rfl m p_191 q_191 r_x10 (fun h_191 m_191 => ?_)
  replace H := H _ rfl
  exact j_return (dk dt_X12_newCell 100 rfl) rfl ⟨_, rfl, m_191, H⟩
def F_X12_newCell_88  (x3 : Int) (x4 : Int) (s0 : Int) (u : Mu) (P : Mu → Prop) : Prop :=
  F_X12_newCell_174 x3 x4 s0 u P
theorem T_X12_newCell_88  {x3 : Int} {x4 : Int} {s0 : Int} {u : Mu} {P : Mu → Prop} {h : Hp} {g : Nat → Nat} (r_x3 : R32 x3) (r_x4 : R32 x4) (r_s0 : R32 s0) (m : Ms h g u)   (H : F_X12_newCell_88 x3 x4 s0 u P) : J mX12_newCell 4 0 0 (nx (QMV g P)) 88 [some (vr (some (g 0))), none, none, some (ii (x3)), some (ii (x4)), none, none, none, none, none, none] [ii (s0)] h := by
  unfold F_X12_newCell_88 at H
  refine j_istore (dk dt_X12_newCell 45 rfl) (by decide) ?_
  refine j_goto 174 (dk dt_X12_newCell 46 rfl) (by decide) ?_
  exact j_el (T_X12_newCell_174 r_x3 r_x4 r_s0 m   H) (And.intro rfl (And.intro rfl (And.intro rfl (And.intro rfl trivial))))
def F_X12_newCell_66  (x3 : Int) (x4 : Int) (x5 : Int) (x6 : Int) (x7 : Int) (x8 : Int) (s0 : Int) (u : Mu) (P : Mu → Prop) : Prop :=
  (if 0 ≤ x7 then (if x8 < 0 then F_X12_newCell_174 x3 x4 x7 u P else F_X12_alike x8 s0 u (fun x_103 => (if x_103 = 0 then F_X12_alike x7 x8 u (fun x_114 => (if x_114 = 0 then F_X12_alike x7 s0 u (fun x_125 => (if x_125 = 0 then F_X12_clash 3 x5 x6 1 u (fun u_145 => (0 ≤ w32 ((mI u_145 0 98) - 1) ∧ w32 ((mI u_145 0 98) - 1) < 370 ∧ (∀ u_160, u_160 = uI u_145 94 (w32 ((mI u_145 0 98) - 1)) x7 → (0 ≤ w32 ((mI u_160 0 98) - 1) ∧ w32 ((mI u_160 0 98) - 1) < 370 ∧ (∀ u_173, u_173 = uI u_160 95 (w32 ((mI u_160 0 98) - 1)) x8 → F_X12_newCell_174 x3 x4 x7 u_173 P))))) else F_X12_newCell_174 x3 x4 x8 u P)) else F_X12_newCell_174 x3 x4 x7 u P)) else F_X12_newCell_174 x3 x4 x7 u P))) else (if 0 ≤ x8 then F_X12_newCell_88 x3 x4 x8 u P else F_X12_newCell_88 x3 x4 0 u P))
theorem T_X12_newCell_66  {x3 : Int} {x4 : Int} {x5 : Int} {x6 : Int} {x7 : Int} {x8 : Int} {s0 : Int} {u : Mu} {P : Mu → Prop} {h : Hp} {g : Nat → Nat} (r_x3 : R32 x3) (r_x4 : R32 x4) (r_x5 : R32 x5) (r_x6 : R32 x6) (r_x7 : R32 x7) (r_x8 : R32 x8) (r_s0 : R32 s0) (m : Ms h g u)   (H : F_X12_newCell_66 x3 x4 x5 x6 x7 x8 s0 u P) : J mX12_newCell 4 0 0 (nx (QMV g P)) 66 [some (vr (some (g 0))), none, none, some (ii (x3)), some (ii (x4)), some (ii (x5)), some (ii (x6)), some (ii (x7)), some (ii (x8)), none, none] [ii (s0)] h := by
  unfold F_X12_newCell_66 at H
  refine j_istore (dk dt_X12_newCell 35 rfl) (by decide) ?_
  refine j_iload (dk dt_X12_newCell 36 rfl) rfl ?_
  refine j_istore (dk dt_X12_newCell 37 rfl) (by decide) ?_
  refine j_iload (dk dt_X12_newCell 38 rfl) rfl ?_
  refine jz_if_ge 93 (dk dt_X12_newCell 39 rfl) (by decide) r_x7 H (fun H => ?_) (fun H => ?_)
  · refine j_iload (dk dt_X12_newCell 47 rfl) rfl ?_
    refine jz_if_lt 174 (dk dt_X12_newCell 48 rfl) (by decide) r_x8 H (fun H => ?_) (fun H => ?_)
    · exact j_el (T_X12_newCell_174 r_x3 r_x4 r_x7 m   H) (And.intro rfl (And.intro rfl (And.intro rfl (And.intro rfl trivial))))
    · refine j_aload_n (dk dt_X12_newCell 49 rfl) rfl ?_
      refine j_iload (dk dt_X12_newCell 50 rfl) rfl ?_
      refine j_iload (dk dt_X12_newCell 51 rfl) rfl ?_
      refine jz_callV2 (dk dt_X12_newCell 52 rfl) vl_X12_865 rfl (T_X12_alike r_x8 r_s0 m H) m.1.1 rfl (by decide) (Nat.zero_le _) (Nat.zero_le _) (Nat.le_of_ble_eq_true rfl) (fun v_103 h_103 P_103 => ?_)
      obtain ⟨x_103, rfl, r_103, rfl, H⟩ := P_103
      dsimp only [rs]
      refine jz_if_ne 174 (dk dt_X12_newCell 53 rfl) (by decide) r_103 H (fun H => ?_) (fun H => ?_)
      · refine j_aload_n (dk dt_X12_newCell 54 rfl) rfl ?_
        refine j_iload (dk dt_X12_newCell 55 rfl) rfl ?_
        refine j_iload (dk dt_X12_newCell 56 rfl) rfl ?_
        refine jz_callV2 (dk dt_X12_newCell 57 rfl) vl_X12_865 rfl (T_X12_alike r_x7 r_x8 m H) m.1.1 rfl (by decide) (Nat.zero_le _) (Nat.zero_le _) (Nat.le_of_ble_eq_true rfl) (fun v_114 h_114 P_114 => ?_)
        obtain ⟨x_114, rfl, r_114, rfl, H⟩ := P_114
        dsimp only [rs]
        refine jz_if_ne 174 (dk dt_X12_newCell 58 rfl) (by decide) r_114 H (fun H => ?_) (fun H => ?_)
        · refine j_aload_n (dk dt_X12_newCell 59 rfl) rfl ?_
          refine j_iload (dk dt_X12_newCell 60 rfl) rfl ?_
          refine j_iload (dk dt_X12_newCell 61 rfl) rfl ?_
          refine jz_callV2 (dk dt_X12_newCell 62 rfl) vl_X12_865 rfl (T_X12_alike r_x7 r_s0 m H) m.1.1 rfl (by decide) (Nat.zero_le _) (Nat.zero_le _) (Nat.le_of_ble_eq_true rfl) (fun v_125 h_125 P_125 => ?_)
          obtain ⟨x_125, rfl, r_125, rfl, H⟩ := P_125
          dsimp only [rs]
          refine jz_if_eq 138 (dk dt_X12_newCell 63 rfl) (by decide) r_125 H (fun H => ?_) (fun H => ?_)
          · refine j_aload_n (dk dt_X12_newCell 67 rfl) rfl ?_
            refine j_iconst (v := Int32.ofInt 3) (dk dt_X12_newCell 68 rfl) (by decide) ?_
            refine j_iload (dk dt_X12_newCell 69 rfl) rfl ?_
            refine j_iload (dk dt_X12_newCell 70 rfl) rfl ?_
            refine j_iconst (v := Int32.ofInt 1) (dk dt_X12_newCell 71 rfl) (by decide) ?_
            refine jz_callV4 (dk dt_X12_newCell 72 rfl) vl_X12_913 rfl (T_X12_clash (by decide) r_x5 r_x6 (by decide) m H) m.1.1 rfl (by decide) (Nat.zero_le _) (Nat.zero_le _) (Nat.le_of_ble_eq_true rfl) (fun v_145 h_145 P_145 => ?_)
            obtain ⟨u_145, rfl, m_145, H⟩ := P_145
            dsimp only [rs]
            refine j_aload_n (dk dt_X12_newCell 73 rfl) rfl ?_
            refine jm_getA (dk dt_X12_newCell 74 rfl) fl_X12_174 rfl (c := 14) rfl m_145 ?_
            refine j_aload_n (dk dt_X12_newCell 75 rfl) rfl ?_
            refine jm_getI (kz := 98) (dk dt_X12_newCell 76 rfl) fl_X12_868 rfl rfl m_145 ?_
            refine j_iconst (v := Int32.ofInt 1) (dk dt_X12_newCell 77 rfl) (by decide) ?_
            refine jz_isub (dk dt_X12_newCell 78 rfl) ?_
            refine j_iload (dk dt_X12_newCell 79 rfl) rfl ?_
            obtain ⟨p_160, q_160, H⟩ := H
            refine jm_iast (dk dt_X12_newCell 80 rfl) rfl rfl m_145 p_160 q_160 r_x7 (fun h_160 m_160 => ?_)
            replace H := H _ rfl
            refine j_aload_n (dk dt_X12_newCell 81 rfl) rfl ?_
            refine jm_getA (dk dt_X12_newCell 82 rfl) fl_X12_177 rfl (c := 14) rfl m_160 ?_
            refine j_aload_n (dk dt_X12_newCell 83 rfl) rfl ?_
            refine jm_getI (kz := 98) (dk dt_X12_newCell 84 rfl) fl_X12_868 rfl rfl m_160 ?_
            refine j_iconst (v := Int32.ofInt 1) (dk dt_X12_newCell 85 rfl) (by decide) ?_
            refine jz_isub (dk dt_X12_newCell 86 rfl) ?_
            refine j_iload (dk dt_X12_newCell 87 rfl) rfl ?_
            obtain ⟨p_173, q_173, H⟩ := H
            refine jm_iast (dk dt_X12_newCell 88 rfl) rfl rfl m_160 p_173 q_173 r_x8 (fun h_173 m_173 => ?_)
            replace H := H _ rfl
            exact j_el (T_X12_newCell_174 r_x3 r_x4 r_x7 m_173   H) (And.intro rfl (And.intro rfl (And.intro rfl (And.intro rfl trivial))))
          · refine j_iload (dk dt_X12_newCell 64 rfl) rfl ?_
            refine j_istore (dk dt_X12_newCell 65 rfl) (by decide) ?_
            refine j_goto 174 (dk dt_X12_newCell 66 rfl) (by decide) ?_
            exact j_el (T_X12_newCell_174 r_x3 r_x4 r_x8 m   H) (And.intro rfl (And.intro rfl (And.intro rfl (And.intro rfl trivial))))
        · exact j_el (T_X12_newCell_174 r_x3 r_x4 r_x7 m   H) (And.intro rfl (And.intro rfl (And.intro rfl (And.intro rfl trivial))))
      · exact j_el (T_X12_newCell_174 r_x3 r_x4 r_x7 m   H) (And.intro rfl (And.intro rfl (And.intro rfl (And.intro rfl trivial))))
  · refine j_iload (dk dt_X12_newCell 40 rfl) rfl ?_
    refine jz_if_ge 86 (dk dt_X12_newCell 41 rfl) (by decide) r_x8 H (fun H => ?_) (fun H => ?_)
    · refine j_iload (dk dt_X12_newCell 44 rfl) rfl ?_
      exact j_el (T_X12_newCell_88 r_x3 r_x4 r_x8 m   H) (And.intro rfl (And.intro rfl (And.intro rfl trivial)))
    · refine j_iconst (v := Int32.ofInt 0) (dk dt_X12_newCell 42 rfl) (by decide) ?_
      refine j_goto 88 (dk dt_X12_newCell 43 rfl) (by decide) ?_
      exact j_el (T_X12_newCell_88 r_x3 r_x4 (by decide) m   H) (And.intro rfl (And.intro rfl (And.intro rfl trivial)))
def F_X12_newCell  (x1 : Int) (x2 : Int) (x3 : Int) (x4 : Int) (u : Mu) (P : Mu → Prop) : Prop :=
  F_X12_lineAt 121 0 x3 u (fun x_5 => F_X12_lineAt 121 1 x4 u (fun x_16 => F_X12_contentOf 40 x_5 x_16 u (fun x_28 => F_X12_contentOf x1 x_5 x_16 u (fun x_39 => F_X12_contentOf x2 x_5 x_16 u (fun x_50 => (if 0 ≤ x_50 then F_X12_newCell_66 x3 x4 x_5 x_16 x_28 x_39 x_50 u P else F_X12_newCell_66 x3 x4 x_5 x_16 x_28 x_39 0 u P))))))
theorem T_X12_newCell  {x1 : Int} {x2 : Int} {x3 : Int} {x4 : Int} {u : Mu} {P : Mu → Prop} {h : Hp} {g : Nat → Nat} (r_x1 : R32 x1) (r_x2 : R32 x2) (r_x3 : R32 x3) (r_x4 : R32 x4) (m : Ms h g u)  (H : F_X12_newCell x1 x2 x3 x4 u P) : Con mX12_newCell 4 0 0 [vr (some (g 0)), ii (x1), ii (x2), ii (x3), ii (x4)] h (QMV g P) := by
  refine con_of rfl (Nat.le_of_ble_eq_true rfl) (by decide) ?_
  show J mX12_newCell 4 0 0 _ 0 [some (vr (some (g 0))), some (ii (x1)), some (ii (x2)), some (ii (x3)), some (ii (x4)), none, none, none, none, none, none] [] h
  unfold F_X12_newCell at H
  refine j_aload_n (dk dt_X12_newCell 0 rfl) rfl ?_
  refine j_bipush (v := Int32.ofInt 121) (dk dt_X12_newCell 1 rfl) (by decide) ?_
  refine j_iconst (v := Int32.ofInt 0) (dk dt_X12_newCell 2 rfl) (by decide) ?_
  refine j_iload_n (dk dt_X12_newCell 3 rfl) rfl ?_
  refine jz_callV3 (dk dt_X12_newCell 4 rfl) vl_X12_213 rfl (T_X12_lineAt (by decide) (by decide) r_x3 m H) m.1.1 rfl (by decide) (Nat.zero_le _) (Nat.zero_le _) (Nat.le_of_ble_eq_true rfl) (fun v_5 h_5 P_5 => ?_)
  obtain ⟨x_5, rfl, r_5, rfl, H⟩ := P_5
  dsimp only [rs]
  refine j_istore (dk dt_X12_newCell 5 rfl) (by decide) ?_
  refine j_aload_n (dk dt_X12_newCell 6 rfl) rfl ?_
  refine j_bipush (v := Int32.ofInt 121) (dk dt_X12_newCell 7 rfl) (by decide) ?_
  refine j_iconst (v := Int32.ofInt 1) (dk dt_X12_newCell 8 rfl) (by decide) ?_
  refine j_iload (dk dt_X12_newCell 9 rfl) rfl ?_
  refine jz_callV3 (dk dt_X12_newCell 10 rfl) vl_X12_213 rfl (T_X12_lineAt (by decide) (by decide) r_x4 m H) m.1.1 rfl (by decide) (Nat.zero_le _) (Nat.zero_le _) (Nat.le_of_ble_eq_true rfl) (fun v_16 h_16 P_16 => ?_)
  obtain ⟨x_16, rfl, r_16, rfl, H⟩ := P_16
  dsimp only [rs]
  refine j_istore (dk dt_X12_newCell 11 rfl) (by decide) ?_
  refine j_aload_n (dk dt_X12_newCell 12 rfl) rfl ?_
  refine j_bipush (v := Int32.ofInt 40) (dk dt_X12_newCell 13 rfl) (by decide) ?_
  refine j_iload (dk dt_X12_newCell 14 rfl) rfl ?_
  refine j_iload (dk dt_X12_newCell 15 rfl) rfl ?_
  refine jz_callV3 (dk dt_X12_newCell 16 rfl) vl_X12_887 rfl (T_X12_contentOf (by decide) r_5 r_16 m H) m.1.1 rfl (by decide) (Nat.zero_le _) (Nat.zero_le _) (Nat.le_of_ble_eq_true rfl) (fun v_28 h_28 P_28 => ?_)
  obtain ⟨x_28, rfl, r_28, rfl, H⟩ := P_28
  dsimp only [rs]
  refine j_istore (dk dt_X12_newCell 17 rfl) (by decide) ?_
  refine j_aload_n (dk dt_X12_newCell 18 rfl) rfl ?_
  refine j_iload_n (dk dt_X12_newCell 19 rfl) rfl ?_
  refine j_iload (dk dt_X12_newCell 20 rfl) rfl ?_
  refine j_iload (dk dt_X12_newCell 21 rfl) rfl ?_
  refine jz_callV3 (dk dt_X12_newCell 22 rfl) vl_X12_887 rfl (T_X12_contentOf r_x1 r_5 r_16 m H) m.1.1 rfl (by decide) (Nat.zero_le _) (Nat.zero_le _) (Nat.le_of_ble_eq_true rfl) (fun v_39 h_39 P_39 => ?_)
  obtain ⟨x_39, rfl, r_39, rfl, H⟩ := P_39
  dsimp only [rs]
  refine j_istore (dk dt_X12_newCell 23 rfl) (by decide) ?_
  refine j_aload_n (dk dt_X12_newCell 24 rfl) rfl ?_
  refine j_iload_n (dk dt_X12_newCell 25 rfl) rfl ?_
  refine j_iload (dk dt_X12_newCell 26 rfl) rfl ?_
  refine j_iload (dk dt_X12_newCell 27 rfl) rfl ?_
  refine jz_callV3 (dk dt_X12_newCell 28 rfl) vl_X12_887 rfl (T_X12_contentOf r_x2 r_5 r_16 m H) m.1.1 rfl (by decide) (Nat.zero_le _) (Nat.zero_le _) (Nat.le_of_ble_eq_true rfl) (fun v_50 h_50 P_50 => ?_)
  obtain ⟨x_50, rfl, r_50, rfl, H⟩ := P_50
  dsimp only [rs]
  refine j_istore (dk dt_X12_newCell 29 rfl) (by decide) ?_
  refine j_iload (dk dt_X12_newCell 30 rfl) rfl ?_
  refine jz_if_ge 64 (dk dt_X12_newCell 31 rfl) (by decide) r_50 H (fun H => ?_) (fun H => ?_)
  · refine j_iload (dk dt_X12_newCell 34 rfl) rfl ?_
    exact j_el (T_X12_newCell_66 r_x3 r_x4 r_5 r_16 r_28 r_39 r_50 m   H) (And.intro rfl (And.intro rfl (And.intro rfl (And.intro rfl (And.intro rfl (And.intro rfl (And.intro rfl trivial)))))))
  · refine j_iconst (v := Int32.ofInt 0) (dk dt_X12_newCell 32 rfl) (by decide) ?_
    refine j_goto 66 (dk dt_X12_newCell 33 rfl) (by decide) ?_
    exact j_el (T_X12_newCell_66 r_x3 r_x4 r_5 r_16 r_28 r_39 (by decide) m   H) (And.intro rfl (And.intro rfl (And.intro rfl (And.intro rfl (And.intro rfl (And.intro rfl (And.intro rfl trivial)))))))
def L_X12_newLines_45  (x3 : Int) (x4 : Int) (u : Mu) (P : (Int × Mu) ⊕ ((Mu)) → Prop) : Prop :=
  (if mI u 0 100 ≤ x4 then P (.inr u) else (0 ≤ x4 ∧ x4 < 64 ∧ F_X12_setLine 121 x3 x4 (mI u 99 x4) u (fun u_67 => P (.inl (w32 (x4 + 1), u_67)))))
theorem U_X12_newLines_45  {x3 : Int} {x4 : Int} {u : Mu} {P : (Int × Mu) ⊕ ((Mu)) → Prop} {h : Hp} {g : Nat → Nat} {post : Option Sv ⊕ String → Hp → Prop} (r_x3 : R32 x3) (r_x4 : R32 x4) (m : Ms h g u)  (hl : ∀ (x4 : Int) (u : Mu) (h : Hp), P (.inl (x4, u)) → Ms h g u → R32 x4 → J mX12_newLines 7 0 0 post 45 [some (vr (some (g 0))), none, none, some (ii (x3)), some (ii (x4))] [] h) (he0 : ∀ (u : Mu) (h : Hp), P (.inr u) → Ms h g u → J mX12_newLines 7 0 0 post 76 [none, none, none, none, none] [] h) (H : L_X12_newLines_45 x3 x4 u P) : J mX12_newLines 7 0 0 post 45 [some (vr (some (g 0))), none, none, some (ii (x3)), some (ii (x4))] [] h := by
  unfold L_X12_newLines_45 at H
  refine j_iload (dk dt_X12_newLines 25 rfl) rfl ?_
  refine j_aload_n (dk dt_X12_newLines 26 rfl) rfl ?_
  refine jm_getI (kz := 100) (dk dt_X12_newLines 27 rfl) fl_X12_894 rfl rfl m ?_
  refine jz_icmp_ge 76 (dk dt_X12_newLines 28 rfl) (by decide) r_x4 (m.2.1.1 _ _) H (fun H => ?_) (fun H => ?_)
  · exact j_el (he0 _ _ H m) trivial
  · refine j_aload_n (dk dt_X12_newLines 29 rfl) rfl ?_
    refine j_bipush (v := Int32.ofInt 121) (dk dt_X12_newLines 30 rfl) (by decide) ?_
    refine j_iload_n (dk dt_X12_newLines 31 rfl) rfl ?_
    refine j_iload (dk dt_X12_newLines 32 rfl) rfl ?_
    refine j_aload_n (dk dt_X12_newLines 33 rfl) rfl ?_
    refine jm_getA (dk dt_X12_newLines 34 rfl) fl_X12_186 rfl (c := 14) rfl m ?_
    refine j_iload (dk dt_X12_newLines 35 rfl) rfl ?_
    obtain ⟨p_66, q_66, H⟩ := H
    refine jm_iald (dk dt_X12_newLines 36 rfl) rfl rfl m p_66 q_66 ?_
    refine jz_callV4 (dk dt_X12_newLines 37 rfl) vl_X12_818 rfl (T_X12_setLine (by decide) r_x3 r_x4 (m.2.1.1 _ _) m H) m.1.1 rfl (by decide) (Nat.zero_le _) (Nat.zero_le _) (Nat.le_of_ble_eq_true rfl) (fun v_67 h_67 P_67 => ?_)
    obtain ⟨u_67, rfl, m_67, H⟩ := P_67
    dsimp only [rs]
    refine jz_iinc (dk dt_X12_newLines 38 rfl) rfl ?_
    refine j_goto 45 (dk dt_X12_newLines 39 rfl) (by decide) ?_
    exact j_el (hl _ _ _ H m_67 (r32_w _)) (And.intro rfl (And.intro rfl (And.intro rfl trivial)))
def F_X12_newLines_45  (x3 : Int) (x4 : Int) (u : Mu) (P : Int → Mu → Prop) : Prop :=
  lp (S := Int × Mu) (E := (Mu)) (fun q P_ => L_X12_newLines_45 x3 q.1 q.2 P_) (x4, u) (fun (u : Mu) => P 1 u)
theorem T_X12_newLines_45  {x3 : Int} {x4 : Int} {u : Mu} {P : Int → Mu → Prop} {h : Hp} {g : Nat → Nat} (r_x3 : R32 x3) (r_x4 : R32 x4) (m : Ms h g u)   (H : F_X12_newLines_45 x3 x4 u P) : J mX12_newLines 7 0 0 (nx (QMI g P)) 45 [some (vr (some (g 0))), none, none, some (ii (x3)), some (ii (x4))] [] h := by
  unfold F_X12_newLines_45 at H
  refine lp_J (G := fun q => ∀ h : Hp, Ms h g (q.2) → R32 (q.1) → J mX12_newLines 7 0 0 (nx (QMI g P)) 45 [some (vr (some (g 0))), none, none, some (ii (x3)), some (ii ((q.1)))] [] h) (fun q P_ hl_ he_ Hb => ?_) (x4, u) H _ m r_x4
  obtain ⟨x4, u⟩ := q
  intro h m r_x4
  refine U_X12_newLines_45 (P := P_) r_x3 r_x4 m  (fun x4 u h Hp m r_x4 => hl_ (x4, u) Hp h m r_x4) ?_ Hb
  · intro u h Hp m
    have H := he_ _ Hp
    refine j_iconst (v := Int32.ofInt 1) (dk dt_X12_newLines 40 rfl) (by decide) ?_
    exact j_ireturn (dk dt_X12_newLines 41 rfl) rfl (nar_z (by decide)) ⟨_, _, rfl, (by decide), m, H⟩
def F_X12_newLines_23  (x3 : Int) (s0 : Int) (s1 : Int) (s2 : Int) (u : Mu) (P : Int → Mu → Prop) : Prop :=
  F_X12_in s0 s1 s2 (fun x_23 => (if x_23 = 0 then P 0 u else F_X12_setLines 121 x3 (mI u 0 100) u (fun u_39 => F_X12_newLines_45 x3 0 u_39 P)))
theorem T_X12_newLines_23  {x3 : Int} {s0 : Int} {s1 : Int} {s2 : Int} {u : Mu} {P : Int → Mu → Prop} {h : Hp} {g : Nat → Nat} (r_x3 : R32 x3) (r_s0 : R32 s0) (r_s1 : R32 s1) (r_s2 : R32 s2) (m : Ms h g u)   (H : F_X12_newLines_23 x3 s0 s1 s2 u P) : J mX12_newLines 7 0 0 (nx (QMI g P)) 23 [some (vr (some (g 0))), none, none, some (ii (x3)), none] [ii (s2), ii (s1), ii (s0)] h := by
  unfold F_X12_newLines_23 at H
  refine j_callS3 (dk dt_X12_newLines 13 rfl) sl_X12_220 (T_X12_in r_s0 r_s1 r_s2 H) rfl (by decide) (Nat.zero_le _) (Nat.zero_le _) (Nat.le_of_ble_eq_true rfl) (fun v_23 h_23 P_23 => ?_)
  obtain ⟨x_23, rfl, r_23, rfl, H⟩ := P_23
  dsimp only [rs]
  refine jz_if_ne 31 (dk dt_X12_newLines 14 rfl) (by decide) r_23 H (fun H => ?_) (fun H => ?_)
  · refine j_iconst (v := Int32.ofInt 0) (dk dt_X12_newLines 15 rfl) (by decide) ?_
    exact j_ireturn (dk dt_X12_newLines 16 rfl) rfl (nar_z (by decide)) ⟨_, _, rfl, (by decide), m, H⟩
  · refine j_aload_n (dk dt_X12_newLines 17 rfl) rfl ?_
    refine j_bipush (v := Int32.ofInt 121) (dk dt_X12_newLines 18 rfl) (by decide) ?_
    refine j_iload_n (dk dt_X12_newLines 19 rfl) rfl ?_
    refine j_aload_n (dk dt_X12_newLines 20 rfl) rfl ?_
    refine jm_getI (kz := 100) (dk dt_X12_newLines 21 rfl) fl_X12_894 rfl rfl m ?_
    refine jz_callV3 (dk dt_X12_newLines 22 rfl) vl_X12_828 rfl (T_X12_setLines (by decide) r_x3 (m.2.1.1 _ _) m H) m.1.1 rfl (by decide) (Nat.zero_le _) (Nat.zero_le _) (Nat.le_of_ble_eq_true rfl) (fun v_39 h_39 P_39 => ?_)
    obtain ⟨u_39, rfl, m_39, H⟩ := P_39
    dsimp only [rs]
    refine j_iconst (v := Int32.ofInt 0) (dk dt_X12_newLines 23 rfl) (by decide) ?_
    refine j_istore (dk dt_X12_newLines 24 rfl) (by decide) ?_
    exact j_el (T_X12_newLines_45 r_x3 (by decide) m_39   H) (And.intro rfl (And.intro rfl (And.intro rfl trivial)))
def F_X12_newLines  (x1 : Int) (x2 : Int) (x3 : Int) (u : Mu) (P : Int → Mu → Prop) : Prop :=
  F_X12_comeTogether x1 x2 x3 u (fun u_4 => (if x3 = 0 then F_X12_newLines_23 x3 (mI u_4 0 100) 1 32 u_4 P else F_X12_newLines_23 x3 (mI u_4 0 100) 1 10 u_4 P))
theorem T_X12_newLines  {x1 : Int} {x2 : Int} {x3 : Int} {u : Mu} {P : Int → Mu → Prop} {h : Hp} {g : Nat → Nat} (r_x1 : R32 x1) (r_x2 : R32 x2) (r_x3 : R32 x3) (m : Ms h g u)  (H : F_X12_newLines x1 x2 x3 u P) : Con mX12_newLines 7 0 0 [vr (some (g 0)), ii (x1), ii (x2), ii (x3)] h (QMI g P) := by
  refine con_of rfl (Nat.le_of_ble_eq_true rfl) (by decide) ?_
  show J mX12_newLines 7 0 0 _ 0 [some (vr (some (g 0))), some (ii (x1)), some (ii (x2)), some (ii (x3)), none] [] h
  unfold F_X12_newLines at H
  refine j_aload_n (dk dt_X12_newLines 0 rfl) rfl ?_
  refine j_iload_n (dk dt_X12_newLines 1 rfl) rfl ?_
  refine j_iload_n (dk dt_X12_newLines 2 rfl) rfl ?_
  refine j_iload_n (dk dt_X12_newLines 3 rfl) rfl ?_
  refine jz_callV3 (dk dt_X12_newLines 4 rfl) vl_X12_910 rfl (T_X12_comeTogether r_x1 r_x2 r_x3 m H) m.1.1 rfl (by decide) (Nat.zero_le _) (Nat.zero_le _) (Nat.le_of_ble_eq_true rfl) (fun v_4 h_4 P_4 => ?_)
  obtain ⟨u_4, rfl, m_4, H⟩ := P_4
  dsimp only [rs]
  refine j_aload_n (dk dt_X12_newLines 5 rfl) rfl ?_
  refine jm_getI (kz := 100) (dk dt_X12_newLines 6 rfl) fl_X12_894 rfl rfl m_4 ?_
  refine j_iconst (v := Int32.ofInt 1) (dk dt_X12_newLines 7 rfl) (by decide) ?_
  refine j_iload_n (dk dt_X12_newLines 8 rfl) rfl ?_
  refine jz_if_ne 21 (dk dt_X12_newLines 9 rfl) (by decide) r_x3 H (fun H => ?_) (fun H => ?_)
  · refine j_bipush (v := Int32.ofInt 32) (dk dt_X12_newLines 10 rfl) (by decide) ?_
    refine j_goto 23 (dk dt_X12_newLines 11 rfl) (by decide) ?_
    exact j_el (T_X12_newLines_23 r_x3 (m_4.2.1.1 _ _) (by decide) (by decide) m_4   H) (And.intro rfl (And.intro rfl trivial))
  · refine j_bipush (v := Int32.ofInt 10) (dk dt_X12_newLines 12 rfl) (by decide) ?_
    exact j_el (T_X12_newLines_23 r_x3 (m_4.2.1.1 _ _) (by decide) (by decide) m_4   H) (And.intro rfl (And.intro rfl trivial))
