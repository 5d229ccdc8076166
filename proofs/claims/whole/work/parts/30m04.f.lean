def F_X12_copyFormula_236  (x1 : Int) (x2 : Int) (x3 : Int) (x4 : Int) (x5 : Int) (u : Mu) (P : (Int × Mu) ⊕ ((Mu)) → Prop) : Prop :=
  P (.inl (w32 (x5 + 1), u))
theorem T_X12_copyFormula_236  {x1 : Int} {x2 : Int} {x3 : Int} {x4 : Int} {x5 : Int} {u : Mu} {P : (Int × Mu) ⊕ ((Mu)) → Prop} {h : Hp} {g : Nat → Nat} {post : Option Sv ⊕ String → Hp → Prop} (r_x1 : R32 x1) (r_x2 : R32 x2) (r_x3 : R32 x3) (r_x4 : R32 x4) (r_x5 : R32 x5) (m : Ms h g u)  (hl : ∀ (x5 : Int) (u : Mu) (h : Hp), P (.inl (x5, u)) → Ms h g u → R32 x5 → J mX12_copyFormula 5 0 0 post 13 [some (vr (some (g 0))), some (ii (x1)), some (ii (x2)), some (ii (x3)), some (ii (x4)), some (ii (x5)), none, none] [] h) (he0 : ∀ (u : Mu) (h : Hp), P (.inr u) → Ms h g u → J mX12_copyFormula 5 0 0 post 242 [some (vr (some (g 0))), none, none, none, some (ii (x4)), none, none, none] [] h) (H : F_X12_copyFormula_236 x1 x2 x3 x4 x5 u P) : J mX12_copyFormula 5 0 0 (post) 236 [some (vr (some (g 0))), some (ii (x1)), some (ii (x2)), some (ii (x3)), some (ii (x4)), some (ii (x5)), none, none] [] h := by
  unfold F_X12_copyFormula_236 at H
  refine jz_iinc (dk dt_X12_copyFormula 136 rfl) rfl ?_
  refine j_goto 13 (dk dt_X12_copyFormula 137 rfl) (by decide) ?_
  exact j_el (hl _ _ _ H m (r32_w _)) (And.intro rfl (And.intro rfl (And.intro rfl (And.intro rfl (And.intro rfl (And.intro rfl trivial))))))
def F_X12_copyFormula_228  (x1 : Int) (x2 : Int) (x3 : Int) (x4 : Int) (x5 : Int) (x7 : Int) (u : Mu) (P : (Int × Mu) ⊕ ((Mu)) → Prop) : Prop :=
  F_X12_shift x7 x2 x3 u (fun u_233 => F_X12_copyFormula_236 x1 x2 x3 x4 x5 u_233 P)
theorem T_X12_copyFormula_228  {x1 : Int} {x2 : Int} {x3 : Int} {x4 : Int} {x5 : Int} {x7 : Int} {u : Mu} {P : (Int × Mu) ⊕ ((Mu)) → Prop} {h : Hp} {g : Nat → Nat} {post : Option Sv ⊕ String → Hp → Prop} (r_x1 : R32 x1) (r_x2 : R32 x2) (r_x3 : R32 x3) (r_x4 : R32 x4) (r_x5 : R32 x5) (r_x7 : R32 x7) (m : Ms h g u)  (hl : ∀ (x5 : Int) (u : Mu) (h : Hp), P (.inl (x5, u)) → Ms h g u → R32 x5 → J mX12_copyFormula 5 0 0 post 13 [some (vr (some (g 0))), some (ii (x1)), some (ii (x2)), some (ii (x3)), some (ii (x4)), some (ii (x5)), none, none] [] h) (he0 : ∀ (u : Mu) (h : Hp), P (.inr u) → Ms h g u → J mX12_copyFormula 5 0 0 post 242 [some (vr (some (g 0))), none, none, none, some (ii (x4)), none, none, none] [] h) (H : F_X12_copyFormula_228 x1 x2 x3 x4 x5 x7 u P) : J mX12_copyFormula 5 0 0 (post) 228 [some (vr (some (g 0))), some (ii (x1)), some (ii (x2)), some (ii (x3)), some (ii (x4)), some (ii (x5)), none, some (ii (x7))] [] h := by
  unfold F_X12_copyFormula_228 at H
  refine j_aload_n (dk dt_X12_copyFormula 131 rfl) rfl ?_
  refine j_iload (dk dt_X12_copyFormula 132 rfl) rfl ?_
  refine j_iload_n (dk dt_X12_copyFormula 133 rfl) rfl ?_
  refine j_iload_n (dk dt_X12_copyFormula 134 rfl) rfl ?_
  refine jz_callV3 (dk dt_X12_copyFormula 135 rfl) vl_X12_844 rfl (T_X12_shift r_x7 r_x2 r_x3 m H) m.1.1 rfl (by decide) (Nat.zero_le _) (Nat.zero_le _) (Nat.le_of_ble_eq_true rfl) (fun v_233 h_233 P_233 => ?_)
  obtain ⟨u_233, rfl, m_233, H⟩ := P_233
  dsimp only [rs]
  exact j_el (T_X12_copyFormula_236 r_x1 r_x2 r_x3 r_x4 r_x5 m_233  hl he0 H) (And.intro rfl (And.intro rfl (And.intro rfl (And.intro rfl (And.intro rfl (And.intro rfl trivial))))))
def L_X12_copyFormula_13  (x1 : Int) (x2 : Int) (x3 : Int) (x4 : Int) (x5 : Int) (u : Mu) (P : (Int × Mu) ⊕ ((Mu)) → Prop) : Prop :=
  (if x4 ≤ x5 then P (.inr u) else (0 ≤ w32 (w32 (x1 - 1) + x5) ∧ w32 (w32 (x1 - 1) + x5) < 60420 ∧ (0 ≤ w32 (mI u 0 25 + x5) ∧ w32 (mI u 0 25 + x5) < 60420 ∧ (∀ u_50, u_50 = uI u 26 (w32 (mI u 0 25 + x5)) (mI u 26 (w32 (w32 (x1 - 1) + x5))) → (0 ≤ w32 (w32 (x1 - 1) + x5) ∧ w32 (w32 (x1 - 1) + x5) < 60420 ∧ (0 ≤ w32 (mI u 0 25 + x5) ∧ w32 (mI u 0 25 + x5) < 60420 ∧ (∀ u_64, u_64 = uI u_50 27 (w32 (mI u 0 25 + x5)) (mI u_50 27 (w32 (w32 (x1 - 1) + x5))) → (0 ≤ w32 (w32 (x1 - 1) + x5) ∧ w32 (w32 (x1 - 1) + x5) < 60420 ∧ (0 ≤ w32 (mI u 0 25 + x5) ∧ w32 (mI u 0 25 + x5) < 60420 ∧ (∀ u_78, u_78 = uI u_64 28 (w32 (mI u 0 25 + x5)) (mI u_64 28 (w32 (w32 (x1 - 1) + x5))) → (0 ≤ w32 (w32 (x1 - 1) + x5) ∧ w32 (w32 (x1 - 1) + x5) < 60420 ∧ (0 ≤ w32 (mI u 0 25 + x5) ∧ w32 (mI u 0 25 + x5) < 60420 ∧ (∀ u_92, u_92 = uG u_78 29 (w32 (mI u 0 25 + x5)) (mG u_78 29 (w32 (w32 (x1 - 1) + x5))) → (0 ≤ w32 (w32 (x1 - 1) + x5) ∧ w32 (w32 (x1 - 1) + x5) < 60420 ∧ (0 ≤ w32 (mI u 0 25 + x5) ∧ w32 (mI u 0 25 + x5) < 60420 ∧ (∀ u_106, u_106 = uI u_92 30 (w32 (mI u 0 25 + x5)) (mI u_92 30 (w32 (w32 (x1 - 1) + x5))) → (0 ≤ w32 (w32 (x1 - 1) + x5) ∧ w32 (w32 (x1 - 1) + x5) < 60420 ∧ (0 ≤ w32 (mI u 0 25 + x5) ∧ w32 (mI u 0 25 + x5) < 60420 ∧ (∀ u_120, u_120 = uI u_106 31 (w32 (mI u 0 25 + x5)) (mI u_106 31 (w32 (w32 (x1 - 1) + x5))) → (0 ≤ w32 (w32 (x1 - 1) + x5) ∧ w32 (w32 (x1 - 1) + x5) < 60420 ∧ (0 ≤ w32 (mI u 0 25 + x5) ∧ w32 (mI u 0 25 + x5) < 60420 ∧ (∀ u_134, u_134 = uI u_120 32 (w32 (mI u 0 25 + x5)) (mI u_120 32 (w32 (w32 (x1 - 1) + x5))) → (0 ≤ w32 (w32 (x1 - 1) + x5) ∧ w32 (w32 (x1 - 1) + x5) < 60420 ∧ (0 ≤ w32 (mI u 0 25 + x5) ∧ w32 (mI u 0 25 + x5) < 60420 ∧ (∀ u_148, u_148 = uI u_134 33 (w32 (mI u 0 25 + x5)) (mI u_134 33 (w32 (w32 (x1 - 1) + x5))) → (0 ≤ w32 (w32 (x1 - 1) + x5) ∧ w32 (w32 (x1 - 1) + x5) < 60420 ∧ (0 ≤ w32 (mI u 0 25 + x5) ∧ w32 (mI u 0 25 + x5) < 60420 ∧ (∀ u_162, u_162 = uI u_148 34 (w32 (mI u 0 25 + x5)) (mI u_148 34 (w32 (w32 (x1 - 1) + x5))) → (0 ≤ w32 (w32 (x1 - 1) + x5) ∧ w32 (w32 (x1 - 1) + x5) < 60420 ∧ (0 ≤ w32 (mI u 0 25 + x5) ∧ w32 (mI u 0 25 + x5) < 60420 ∧ (∀ u_176, u_176 = uI u_162 35 (w32 (mI u 0 25 + x5)) (mI u_162 35 (w32 (w32 (x1 - 1) + x5))) → (0 ≤ w32 (w32 (x1 - 1) + x5) ∧ w32 (w32 (x1 - 1) + x5) < 60420 ∧ (0 ≤ w32 (mI u 0 25 + x5) ∧ w32 (mI u 0 25 + x5) < 60420 ∧ (∀ u_190, u_190 = uI u_176 36 (w32 (mI u 0 25 + x5)) (mI u_176 36 (w32 (w32 (x1 - 1) + x5))) → (0 ≤ w32 (w32 (x1 - 1) + x5) ∧ w32 (w32 (x1 - 1) + x5) < 60420 ∧ (0 ≤ w32 (mI u 0 25 + x5) ∧ w32 (mI u 0 25 + x5) < 60420 ∧ (∀ u_204, u_204 = uI u_190 37 (w32 (mI u 0 25 + x5)) (mI u_190 37 (w32 (w32 (x1 - 1) + x5))) → (if mI u_204 26 (w32 (mI u 0 25 + x5)) = 5 then F_X12_copyFormula_228 x1 x2 x3 x4 x5 (w32 (mI u 0 25 + x5)) u_204 P else (if mI u_204 26 (w32 (mI u 0 25 + x5)) = 6 then F_X12_copyFormula_228 x1 x2 x3 x4 x5 (w32 (mI u 0 25 + x5)) u_204 P else F_X12_copyFormula_236 x1 x2 x3 x4 x5 u_204 P)))))))))))))))))))))))))))))))))))))))
theorem U_X12_copyFormula_13  {x1 : Int} {x2 : Int} {x3 : Int} {x4 : Int} {x5 : Int} {u : Mu} {P : (Int × Mu) ⊕ ((Mu)) → Prop} {h : Hp} {g : Nat → Nat} {post : Option Sv ⊕ String → Hp → Prop} (r_x1 : R32 x1) (r_x2 : R32 x2) (r_x3 : R32 x3) (r_x4 : R32 x4) (r_x5 : R32 x5) (m : Ms h g u)  (hl : ∀ (x5 : Int) (u : Mu) (h : Hp), P (.inl (x5, u)) → Ms h g u → R32 x5 → J mX12_copyFormula 5 0 0 post 13 [some (vr (some (g 0))), some (ii (x1)), some (ii (x2)), some (ii (x3)), some (ii (x4)), some (ii (x5)), none, none] [] h) (he0 : ∀ (u : Mu) (h : Hp), P (.inr u) → Ms h g u → J mX12_copyFormula 5 0 0 post 242 [some (vr (some (g 0))), none, none, none, some (ii (x4)), none, none, none] [] h) (H : L_X12_copyFormula_13 x1 x2 x3 x4 x5 u P) : J mX12_copyFormula 5 0 0 post 13 [some (vr (some (g 0))), some (ii (x1)), some (ii (x2)), some (ii (x3)), some (ii (x4)), some (ii (x5)), none, none] [] h := by
  unfold L_X12_copyFormula_13 at H
  refine j_iload (dk dt_X12_copyFormula 9 rfl) rfl ?_
  refine j_iload (dk dt_X12_copyFormula 10 rfl) rfl ?_
  refine jz_icmp_ge 242 (dk dt_X12_copyFormula 11 rfl) (by decide) r_x5 r_x4 H (fun H => ?_) (fun H => ?_)
  · exact j_el (he0 _ _ H m) (And.intro rfl (And.intro rfl trivial))
  · refine j_iload_n (dk dt_X12_copyFormula 12 rfl) rfl ?_
    refine j_iconst (v := Int32.ofInt 1) (dk dt_X12_copyFormula 13 rfl) (by decide) ?_
    refine jz_isub (dk dt_X12_copyFormula 14 rfl) ?_
    refine j_iload (dk dt_X12_copyFormula 15 rfl) rfl ?_
    refine jz_iadd (dk dt_X12_copyFormula 16 rfl) ?_
    refine j_istore (dk dt_X12_copyFormula 17 rfl) (by decide) ?_
    refine j_aload_n (dk dt_X12_copyFormula 18 rfl) rfl ?_
    refine jm_getI (kz := 25) (dk dt_X12_copyFormula 19 rfl) fl_X12_336 rfl rfl m ?_
    refine j_iload (dk dt_X12_copyFormula 20 rfl) rfl ?_
    refine jz_iadd (dk dt_X12_copyFormula 21 rfl) ?_
    refine j_istore (dk dt_X12_copyFormula 22 rfl) (by decide) ?_
    refine j_aload_n (dk dt_X12_copyFormula 23 rfl) rfl ?_
    refine jm_getA (dk dt_X12_copyFormula 24 rfl) fl_X12_67 rfl (c := 14) rfl m ?_
    refine j_iload (dk dt_X12_copyFormula 25 rfl) rfl ?_
    refine j_aload_n (dk dt_X12_copyFormula 26 rfl) rfl ?_
    refine jm_getA (dk dt_X12_copyFormula 27 rfl) fl_X12_67 rfl (c := 14) rfl m ?_
    refine j_iload (dk dt_X12_copyFormula 28 rfl) rfl ?_
    obtain ⟨p_49, q_49, H⟩ := H
    refine jm_iald (dk dt_X12_copyFormula 29 rfl) rfl rfl m p_49 q_49 ?_
    obtain ⟨p_50, q_50, H⟩ := H
    refine jm_iast (dk dt_X12_copyFormula 30 rfl) rfl rfl m p_50 q_50 (m.2.1.1 _ _) (fun h_50 m_50 => ?_)
    replace H := H _ rfl
    refine j_aload_n (dk dt_X12_copyFormula 31 rfl) rfl ?_
    refine jm_getA (dk dt_X12_copyFormula 32 rfl) fl_X12_70 rfl (c := 14) rfl m_50 ?_
    refine j_iload (dk dt_X12_copyFormula 33 rfl) rfl ?_
    refine j_aload_n (dk dt_X12_copyFormula 34 rfl) rfl ?_
    refine jm_getA (dk dt_X12_copyFormula 35 rfl) fl_X12_70 rfl (c := 14) rfl m_50 ?_
    refine j_iload (dk dt_X12_copyFormula 36 rfl) rfl ?_
    obtain ⟨p_63, q_63, H⟩ := H
    refine jm_iald (dk dt_X12_copyFormula 37 rfl) rfl rfl m_50 p_63 q_63 ?_
    obtain ⟨p_64, q_64, H⟩ := H
    refine jm_iast (dk dt_X12_copyFormula 38 rfl) rfl rfl m_50 p_64 q_64 (m_50.2.1.1 _ _) (fun h_64 m_64 => ?_)
    replace H := H _ rfl
    refine j_aload_n (dk dt_X12_copyFormula 39 rfl) rfl ?_
    refine jm_getA (dk dt_X12_copyFormula 40 rfl) fl_X12_73 rfl (c := 14) rfl m_64 ?_
    refine j_iload (dk dt_X12_copyFormula 41 rfl) rfl ?_
    refine j_aload_n (dk dt_X12_copyFormula 42 rfl) rfl ?_
    refine jm_getA (dk dt_X12_copyFormula 43 rfl) fl_X12_73 rfl (c := 14) rfl m_64 ?_
    refine j_iload (dk dt_X12_copyFormula 44 rfl) rfl ?_
    obtain ⟨p_77, q_77, H⟩ := H
    refine jm_iald (dk dt_X12_copyFormula 45 rfl) rfl rfl m_64 p_77 q_77 ?_
    obtain ⟨p_78, q_78, H⟩ := H
    refine jm_iast (dk dt_X12_copyFormula 46 rfl) rfl rfl m_64 p_78 q_78 (m_64.2.1.1 _ _) (fun h_78 m_78 => ?_)
    replace H := H _ rfl
    refine j_aload_n (dk dt_X12_copyFormula 47 rfl) rfl ?_
    refine jm_getA (dk dt_X12_copyFormula 48 rfl) fl_X12_76 rfl (c := 15) rfl m_78 ?_
    refine j_iload (dk dt_X12_copyFormula 49 rfl) rfl ?_
    refine j_aload_n (dk dt_X12_copyFormula 50 rfl) rfl ?_
    refine jm_getA (dk dt_X12_copyFormula 51 rfl) fl_X12_76 rfl (c := 15) rfl m_78 ?_
    refine j_iload (dk dt_X12_copyFormula 52 rfl) rfl ?_
    obtain ⟨p_91, q_91, H⟩ := H
    refine jm_lald (dk dt_X12_copyFormula 53 rfl) rfl rfl m_78 p_91 q_91 ?_
    obtain ⟨p_92, q_92, H⟩ := H
    refine jm_last (dk dt_X12_copyFormula 54 rfl) rfl rfl m_78 p_92 q_92 (m_78.2.1.2.1 _ _) (fun h_92 m_92 => ?_)
    replace H := H _ rfl
    refine j_aload_n (dk dt_X12_copyFormula 55 rfl) rfl ?_
    refine jm_getA (dk dt_X12_copyFormula 56 rfl) fl_X12_79 rfl (c := 14) rfl m_92 ?_
    refine j_iload (dk dt_X12_copyFormula 57 rfl) rfl ?_
    refine j_aload_n (dk dt_X12_copyFormula 58 rfl) rfl ?_
    refine jm_getA (dk dt_X12_copyFormula 59 rfl) fl_X12_79 rfl (c := 14) rfl m_92 ?_
    refine j_iload (dk dt_X12_copyFormula 60 rfl) rfl ?_
    obtain ⟨p_105, q_105, H⟩ := H
    refine jm_iald (dk dt_X12_copyFormula 61 rfl) rfl rfl m_92 p_105 q_105 ?_
    obtain ⟨p_106, q_106, H⟩ := H
    refine jm_iast (dk dt_X12_copyFormula 62 rfl) rfl rfl m_92 p_106 q_106 (m_92.2.1.1 _ _) (fun h_106 m_106 => ?_)
    replace H := H _ rfl
    refine j_aload_n (dk dt_X12_copyFormula 63 rfl) rfl ?_
    refine jm_getA (dk dt_X12_copyFormula 64 rfl) fl_X12_82 rfl (c := 14) rfl m_106 ?_
    refine j_iload (dk dt_X12_copyFormula 65 rfl) rfl ?_
    refine j_aload_n (dk dt_X12_copyFormula 66 rfl) rfl ?_
    refine jm_getA (dk dt_X12_copyFormula 67 rfl) fl_X12_82 rfl (c := 14) rfl m_106 ?_
    refine j_iload (dk dt_X12_copyFormula 68 rfl) rfl ?_
    obtain ⟨p_119, q_119, H⟩ := H
    refine jm_iald (dk dt_X12_copyFormula 69 rfl) rfl rfl m_106 p_119 q_119 ?_
    obtain ⟨p_120, q_120, H⟩ := H
    refine jm_iast (dk dt_X12_copyFormula 70 rfl) rfl rfl m_106 p_120 q_120 (m_106.2.1.1 _ _) (fun h_120 m_120 => ?_)
    replace H := H _ rfl
    refine j_aload_n (dk dt_X12_copyFormula 71 rfl) rfl ?_
    refine jm_getA (dk dt_X12_copyFormula 72 rfl) fl_X12_85 rfl (c := 14) rfl m_120 ?_
    refine j_iload (dk dt_X12_copyFormula 73 rfl) rfl ?_
    refine j_aload_n (dk dt_X12_copyFormula 74 rfl) rfl ?_
    refine jm_getA (dk dt_X12_copyFormula 75 rfl) fl_X12_85 rfl (c := 14) rfl m_120 ?_
    refine j_iload (dk dt_X12_copyFormula 76 rfl) rfl ?_
    obtain ⟨p_133, q_133, H⟩ := H
    refine jm_iald (dk dt_X12_copyFormula 77 rfl) rfl rfl m_120 p_133 q_133 ?_
    obtain ⟨p_134, q_134, H⟩ := H
    refine jm_iast (dk dt_X12_copyFormula 78 rfl) rfl rfl m_120 p_134 q_134 (m_120.2.1.1 _ _) (fun h_134 m_134 => ?_)
    replace H := H _ rfl
    refine j_aload_n (dk dt_X12_copyFormula 79 rfl) rfl ?_
    refine jm_getA (dk dt_X12_copyFormula 80 rfl) fl_X12_88 rfl (c := 14) rfl m_134 ?_
    refine j_iload (dk dt_X12_copyFormula 81 rfl) rfl ?_
    refine j_aload_n (dk dt_X12_copyFormula 82 rfl) rfl ?_
    refine jm_getA (dk dt_X12_copyFormula 83 rfl) fl_X12_88 rfl (c := 14) rfl m_134 ?_
    refine j_iload (dk dt_X12_copyFormula 84 rfl) rfl ?_
    obtain ⟨p_147, q_147, H⟩ := H
    refine jm_iald (dk dt_X12_copyFormula 85 rfl) rfl rfl m_134 p_147 q_147 ?_
    obtain ⟨p_148, q_148, H⟩ := H
    refine jm_iast (dk dt_X12_copyFormula 86 rfl) rfl rfl m_134 p_148 q_148 (m_134.2.1.1 _ _) (fun h_148 m_148 => ?_)
    replace H := H _ rfl
    refine j_aload_n (dk dt_X12_copyFormula 87 rfl) rfl ?_
    refine jm_getA (dk dt_X12_copyFormula 88 rfl) fl_X12_91 rfl (c := 14) rfl m_148 ?_
    refine j_iload (dk dt_X12_copyFormula 89 rfl) rfl ?_
    refine j_aload_n (dk dt_X12_copyFormula 90 rfl) rfl ?_
    refine jm_getA (dk dt_X12_copyFormula 91 rfl) fl_X12_91 rfl (c := 14) rfl m_148 ?_
    refine j_iload (dk dt_X12_copyFormula 92 rfl) rfl ?_
    obtain ⟨p_161, q_161, H⟩ := H
    refine jm_iald (dk dt_X12_copyFormula 93 rfl) rfl rfl m_148 p_161 q_161 ?_
    obtain ⟨p_162, q_162, H⟩ := H
    refine jm_iast (dk dt_X12_copyFormula 94 rfl) rfl rfl m_148 p_162 q_162 (m_148.2.1.1 _ _) (fun h_162 m_162 => ?_)
    replace H := H _ rfl
    refine j_aload_n (dk dt_X12_copyFormula 95 rfl) rfl ?_
    refine jm_getA (dk dt_X12_copyFormula 96 rfl) fl_X12_94 rfl (c := 14) rfl m_162 ?_
    refine j_iload (dk dt_X12_copyFormula 97 rfl) rfl ?_
    refine j_aload_n (dk dt_X12_copyFormula 98 rfl) rfl ?_
    refine jm_getA (dk dt_X12_copyFormula 99 rfl) fl_X12_94 rfl (c := 14) rfl m_162 ?_
    refine j_iload (dk dt_X12_copyFormula 100 rfl) rfl ?_
    obtain ⟨p_175, q_175, H⟩ := H
    refine jm_iald (dk dt_X12_copyFormula 101 rfl) rfl rfl m_162 p_175 q_175 ?_
    obtain ⟨p_176, q_176, H⟩ := H
    refine jm_iast (dk dt_X12_copyFormula 102 rfl) rfl rfl m_162 p_176 q_176 (m_162.2.1.1 _ _) (fun h_176 m_176 => ?_)
    replace H := H _ rfl
    refine j_aload_n (dk dt_X12_copyFormula 103 rfl) rfl ?_
    refine jm_getA (dk dt_X12_copyFormula 104 rfl) fl_X12_97 rfl (c := 14) rfl m_176 ?_
    refine j_iload (dk dt_X12_copyFormula 105 rfl) rfl ?_
    refine j_aload_n (dk dt_X12_copyFormula 106 rfl) rfl ?_
    refine jm_getA (dk dt_X12_copyFormula 107 rfl) fl_X12_97 rfl (c := 14) rfl m_176 ?_
    refine j_iload (dk dt_X12_copyFormula 108 rfl) rfl ?_
    obtain ⟨p_189, q_189, H⟩ := H
    refine jm_iald (dk dt_X12_copyFormula 109 rfl) rfl rfl m_176 p_189 q_189 ?_
    obtain ⟨p_190, q_190, H⟩ := H
    refine jm_iast (dk dt_X12_copyFormula 110 rfl) rfl rfl m_176 p_190 q_190 (m_176.2.1.1 _ _) (fun h_190 m_190 => ?_)
    replace H := H _ rfl
    refine j_aload_n (dk dt_X12_copyFormula 111 rfl) rfl ?_
    refine jm_getA (dk dt_X12_copyFormula 112 rfl) fl_X12_100 rfl (c := 14) rfl m_190 ?_
    refine j_iload (dk dt_X12_copyFormula 113 rfl) rfl ?_
    refine j_aload_n (dk dt_X12_copyFormula 114 rfl) rfl ?_
    refine jm_getA (dk dt_X12_copyFormula 115 rfl) fl_X12_100 rfl (c := 14) rfl m_190 ?_
    refine j_iload (dk dt_X12_copyFormula 116 rfl) rfl ?_
    obtain ⟨p_203, q_203, H⟩ := H
    refine jm_iald (dk dt_X12_copyFormula 117 rfl) rfl rfl m_190 p_203 q_203 ?_
    obtain ⟨p_204, q_204, H⟩ := H
    refine jm_iast (dk dt_X12_copyFormula 118 rfl) rfl rfl m_190 p_204 q_204 (m_190.2.1.1 _ _) (fun h_204 m_204 => ?_)
    replace H := H _ rfl
    refine j_aload_n (dk dt_X12_copyFormula 119 rfl) rfl ?_
    refine jm_getA (dk dt_X12_copyFormula 120 rfl) fl_X12_67 rfl (c := 14) rfl m_204 ?_
    refine j_iload (dk dt_X12_copyFormula 121 rfl) rfl ?_
    refine jm_iald (dk dt_X12_copyFormula 122 rfl) rfl rfl m_204 p_50 q_50 ?_
    refine j_iconst (v := Int32.ofInt 5) (dk dt_X12_copyFormula 123 rfl) (by decide) ?_
    refine jz_icmp_eq 228 (dk dt_X12_copyFormula 124 rfl) (by decide) (m_204.2.1.1 _ _) (by decide) H (fun H => ?_) (fun H => ?_)
    · exact j_el (T_X12_copyFormula_228 r_x1 r_x2 r_x3 r_x4 r_x5 (r32_w _) m_204  hl he0 H) (And.intro rfl (And.intro rfl (And.intro rfl (And.intro rfl (And.intro rfl (And.intro rfl (And.intro rfl trivial)))))))
    · refine j_aload_n (dk dt_X12_copyFormula 125 rfl) rfl ?_
      refine jm_getA (dk dt_X12_copyFormula 126 rfl) fl_X12_67 rfl (c := 14) rfl m_204 ?_
      refine j_iload (dk dt_X12_copyFormula 127 rfl) rfl ?_
      refine jm_iald (dk dt_X12_copyFormula 128 rfl) rfl rfl m_204 p_50 q_50 ?_
      refine j_bipush (v := Int32.ofInt 6) (dk dt_X12_copyFormula 129 rfl) (by decide) ?_
      refine jz_icmp_ne 236 (dk dt_X12_copyFormula 130 rfl) (by decide) (m_204.2.1.1 _ _) (by decide) H (fun H => ?_) (fun H => ?_)
      · exact j_el (T_X12_copyFormula_228 r_x1 r_x2 r_x3 r_x4 r_x5 (r32_w _) m_204  hl he0 H) (And.intro rfl (And.intro rfl (And.intro rfl (And.intro rfl (And.intro rfl (And.intro rfl (And.intro rfl trivial)))))))
      · exact j_el (T_X12_copyFormula_236 r_x1 r_x2 r_x3 r_x4 r_x5 m_204  hl he0 H) (And.intro rfl (And.intro rfl (And.intro rfl (And.intro rfl (And.intro rfl (And.intro rfl trivial))))))
def F_X12_copyFormula_13  (x1 : Int) (x2 : Int) (x3 : Int) (x4 : Int) (x5 : Int) (u : Mu) (P : Int → Mu → Prop) : Prop :=
  lp (S := Int × Mu) (E := (Mu)) (fun q P_ => L_X12_copyFormula_13 x1 x2 x3 x4 q.1 q.2 P_) (x5, u) (fun (u : Mu) => (0 ≤ mI u 0 25 ∧ mI u 0 25 < 60420 ∧ (∀ u_252, u_252 = uI u 38 (mI u 0 25) x4 → (∀ u_261, u_261 = uI u_252 0 25 (w32 (mI u_252 0 25 + x4)) → P (w32 (w32 ((mI u_261 0 25) - x4) + 1)) u_261))))
theorem T_X12_copyFormula_13  {x1 : Int} {x2 : Int} {x3 : Int} {x4 : Int} {x5 : Int} {u : Mu} {P : Int → Mu → Prop} {h : Hp} {g : Nat → Nat} (r_x1 : R32 x1) (r_x2 : R32 x2) (r_x3 : R32 x3) (r_x4 : R32 x4) (r_x5 : R32 x5) (m : Ms h g u)   (H : F_X12_copyFormula_13 x1 x2 x3 x4 x5 u P) : J mX12_copyFormula 5 0 0 (nx (QMI g P)) 13 [some (vr (some (g 0))), some (ii (x1)), some (ii (x2)), some (ii (x3)), some (ii (x4)), some (ii (x5)), none, none] [] h := by
  unfold F_X12_copyFormula_13 at H
  refine lp_J (G := fun q => ∀ h : Hp, Ms h g (q.2) → R32 (q.1) → J mX12_copyFormula 5 0 0 (nx (QMI g P)) 13 [some (vr (some (g 0))), some (ii (x1)), some (ii (x2)), some (ii (x3)), some (ii (x4)), some (ii ((q.1))), none, none] [] h) (fun q P_ hl_ he_ Hb => ?_) (x5, u) H _ m r_x5
  obtain ⟨x5, u⟩ := q
  intro h m r_x5
  refine U_X12_copyFormula_13 (P := P_) r_x1 r_x2 r_x3 r_x4 r_x5 m  (fun x5 u h Hp m r_x5 => hl_ (x5, u) Hp h m r_x5) ?_ Hb
  · intro u h Hp m
    have H := he_ _ Hp
    refine j_aload_n (dk dt_X12_copyFormula 138 rfl) rfl ?_
    refine jm_getA (dk dt_X12_copyFormula 139 rfl) fl_X12_103 rfl (c := 14) rfl m ?_
    refine j_aload_n (dk dt_X12_copyFormula 140 rfl) rfl ?_
    refine jm_getI (kz := 25) (dk dt_X12_copyFormula 141 rfl) fl_X12_336 rfl rfl m ?_
    refine j_iload (dk dt_X12_copyFormula 142 rfl) rfl ?_
    obtain ⟨p_252, q_252, H⟩ := H
    refine jm_iast (dk dt_X12_copyFormula 143 rfl) rfl rfl m p_252 q_252 r_x4 (fun h_252 m_252 => ?_)
    replace H := H _ rfl
    refine j_aload_n (dk dt_X12_copyFormula 144 rfl) rfl ?_
    refine j_aload_n (dk dt_X12_copyFormula 145 rfl) rfl ?_
    refine jm_getI (kz := 25) (dk dt_X12_copyFormula 146 rfl) fl_X12_336 rfl rfl m_252 ?_
    refine j_iload (dk dt_X12_copyFormula 147 rfl) rfl ?_
    refine jz_iadd (dk dt_X12_copyFormula 148 rfl) ?_
    refine jm_putI (kz := 25) (dk dt_X12_copyFormula 149 rfl) fl_X12_336 rfl rfl rfl rfl m_252 (r32_w _) (fun h_261 m_261 => ?_)
    replace H := H _ rfl
    refine j_aload_n (dk dt_X12_copyFormula 150 rfl) rfl ?_
    refine jm_getI (kz := 25) (dk dt_X12_copyFormula 151 rfl) fl_X12_336 rfl rfl m_261 ?_
    refine j_iload (dk dt_X12_copyFormula 152 rfl) rfl ?_
    refine jz_isub (dk dt_X12_copyFormula 153 rfl) ?_
    refine j_iconst (v := Int32.ofInt 1) (dk dt_X12_copyFormula 154 rfl) (by decide) ?_
    refine jz_iadd (dk dt_X12_copyFormula 155 rfl) ?_
    exact j_ireturn (dk dt_X12_copyFormula 156 rfl) rfl rfl ⟨_, _, rfl, (r32_w _), m_261, H⟩
def F_X12_copyFormula  (x1 : Int) (x2 : Int) (x3 : Int) (u : Mu) (P : Int → Mu → Prop) : Prop :=
  (0 ≤ w32 (x1 - 1) ∧ w32 (x1 - 1) < 60420 ∧ F_X12_copyFormula_13 x1 x2 x3 (mI u 38 (w32 (x1 - 1))) 0 u P)
theorem T_X12_copyFormula  {x1 : Int} {x2 : Int} {x3 : Int} {u : Mu} {P : Int → Mu → Prop} {h : Hp} {g : Nat → Nat} (r_x1 : R32 x1) (r_x2 : R32 x2) (r_x3 : R32 x3) (m : Ms h g u)  (H : F_X12_copyFormula x1 x2 x3 u P) : Con mX12_copyFormula 5 0 0 [vr (some (g 0)), ii (x1), ii (x2), ii (x3)] h (QMI g P) := by
  refine con_of rfl (Nat.le_of_ble_eq_true rfl) (by decide) ?_
  show J mX12_copyFormula 5 0 0 _ 0 [some (vr (some (g 0))), some (ii (x1)), some (ii (x2)), some (ii (x3)), none, none, none, none] [] h
  unfold F_X12_copyFormula at H
  refine j_aload_n (dk dt_X12_copyFormula 0 rfl) rfl ?_
  refine jm_getA (dk dt_X12_copyFormula 1 rfl) fl_X12_103 rfl (c := 14) rfl m ?_
  refine j_iload_n (dk dt_X12_copyFormula 2 rfl) rfl ?_
  refine j_iconst (v := Int32.ofInt 1) (dk dt_X12_copyFormula 3 rfl) (by decide) ?_
  refine jz_isub (dk dt_X12_copyFormula 4 rfl) ?_
  obtain ⟨p_7, q_7, H⟩ := H
  refine jm_iald (dk dt_X12_copyFormula 5 rfl) rfl rfl m p_7 q_7 ?_
  refine j_istore (dk dt_X12_copyFormula 6 rfl) (by decide) ?_
  refine j_iconst (v := Int32.ofInt 0) (dk dt_X12_copyFormula 7 rfl) (by decide) ?_
  refine j_istore (dk dt_X12_copyFormula 8 rfl) (by decide) ?_
  exact j_el (T_X12_copyFormula_13 r_x1 r_x2 r_x3 (m.2.1.1 _ _) (by decide) m   H) (And.intro rfl (And.intro rfl (And.intro rfl (And.intro rfl (And.intro rfl (And.intro rfl trivial))))))
def F_X12_copy_41  (u : Mu) (P : Int → Mu → Prop) : Prop :=
  F_X12_throwing 1 u (fun x_43 u_43 => P x_43 u_43)
theorem T_X12_copy_41  {u : Mu} {P : Int → Mu → Prop} {h : Hp} {g : Nat → Nat}  (m : Ms h g u)   (H : F_X12_copy_41 u P) : J mX12_copy 6 0 0 (nx (QMI g P)) 41 [some (vr (some (g 0))), none, none, none, none, none, none, none, none, none, none, none, none] [] h := by
  unfold F_X12_copy_41 at H
  refine j_aload_n (dk dt_X12_copy 21 rfl) rfl ?_
  refine j_iconst (v := Int32.ofInt 1) (dk dt_X12_copy 22 rfl) (by decide) ?_
  refine jz_callV1 (dk dt_X12_copy 23 rfl) vl_X12_237 rfl (T_X12_throwing (by decide) m H) m.1.1 rfl (by decide) (Nat.zero_le _) (Nat.zero_le _) (Nat.le_of_ble_eq_true rfl) (fun v_43 h_43 P_43 => ?_)
  obtain ⟨x_43, u_43, rfl, r_43, m_43, H⟩ := P_43
  dsimp only [rs]
  exact j_ireturn (dk dt_X12_copy 24 rfl) rfl rfl ⟨_, _, rfl, r_43, m_43, H⟩
def F_X12_copy_58  (u : Mu) (P : Int → Mu → Prop) : Prop :=
  F_X12_throwing 2 u (fun x_60 u_60 => P x_60 u_60)
theorem T_X12_copy_58  {u : Mu} {P : Int → Mu → Prop} {h : Hp} {g : Nat → Nat}  (m : Ms h g u)   (H : F_X12_copy_58 u P) : J mX12_copy 6 0 0 (nx (QMI g P)) 58 [some (vr (some (g 0))), none, none, none, none, none, none, none, none, none, none, none, none] [] h := by
  unfold F_X12_copy_58 at H
  refine j_aload_n (dk dt_X12_copy 31 rfl) rfl ?_
  refine j_iconst (v := Int32.ofInt 2) (dk dt_X12_copy 32 rfl) (by decide) ?_
  refine jz_callV1 (dk dt_X12_copy 33 rfl) vl_X12_237 rfl (T_X12_throwing (by decide) m H) m.1.1 rfl (by decide) (Nat.zero_le _) (Nat.zero_le _) (Nat.le_of_ble_eq_true rfl) (fun v_60 h_60 P_60 => ?_)
  obtain ⟨x_60, u_60, rfl, r_60, m_60, H⟩ := P_60
  dsimp only [rs]
  exact j_ireturn (dk dt_X12_copy 34 rfl) rfl rfl ⟨_, _, rfl, r_60, m_60, H⟩
def F_X12_copy_166  (x1 : Int) (x2 : Int) (x5 : Int) (x6 : Int) (x7 : Int) (x8 : Int) (x10 : Int) (s0 : Int) (s1 : Int) (u : Mu) (P : (Int × Int) ⊕ ((Int)) → Prop) : Prop :=
  P (.inl (w32 (s0 + s1), w32 (x10 + 1)))
theorem T_X12_copy_166  {x1 : Int} {x2 : Int} {x5 : Int} {x6 : Int} {x7 : Int} {x8 : Int} {x10 : Int} {s0 : Int} {s1 : Int} {u : Mu} {P : (Int × Int) ⊕ ((Int)) → Prop} {h : Hp} {g : Nat → Nat} {post : Option Sv ⊕ String → Hp → Prop} (r_x1 : R32 x1) (r_x2 : R32 x2) (r_x5 : R32 x5) (r_x6 : R32 x6) (r_x7 : R32 x7) (r_x8 : R32 x8) (r_x10 : R32 x10) (r_s0 : R32 s0) (r_s1 : R32 s1) (m : Ms h g u)  (hl : ∀ (x9 : Int) (x10 : Int), P (.inl (x9, x10)) → R32 x9 → R32 x10 → J mX12_copy 6 0 0 post 111 [some (vr (some (g 0))), some (ii (x1)), some (ii (x2)), none, none, some (ii (x5)), some (ii (x6)), some (ii (x7)), some (ii (x8)), some (ii (x9)), some (ii (x10)), none, none] [] h) (he0 : ∀ (x9 : Int), P (.inr x9) → R32 x9 → J mX12_copy 6 0 0 post 175 [some (vr (some (g 0))), some (ii (x1)), some (ii (x2)), none, none, some (ii (x5)), some (ii (x6)), some (ii (x7)), some (ii (x8)), some (ii (x9)), none, none, none] [] h) (H : F_X12_copy_166 x1 x2 x5 x6 x7 x8 x10 s0 s1 u P) : J mX12_copy 6 0 0 (post) 166 [some (vr (some (g 0))), some (ii (x1)), some (ii (x2)), none, none, some (ii (x5)), some (ii (x6)), some (ii (x7)), some (ii (x8)), none, some (ii (x10)), none, none] [ii (s1), ii (s0)] h := by
  unfold F_X12_copy_166 at H
  refine jz_iadd (dk dt_X12_copy 96 rfl) ?_
  refine j_istore (dk dt_X12_copy 97 rfl) (by decide) ?_
  refine jz_iinc (dk dt_X12_copy 98 rfl) rfl ?_
  refine j_goto 111 (dk dt_X12_copy 99 rfl) (by decide) ?_
  exact j_el (hl _ _ H (r32_w _) (r32_w _)) (And.intro rfl (And.intro rfl (And.intro rfl (And.intro rfl (And.intro rfl (And.intro rfl (And.intro rfl (And.intro rfl (And.intro rfl trivial)))))))))
def L_X12_copy_111  (x1 : Int) (x2 : Int) (x5 : Int) (x6 : Int) (x7 : Int) (x8 : Int) (x9 : Int) (x10 : Int) (u : Mu) (P : (Int × Int) ⊕ ((Int)) → Prop) : Prop :=
  (if w32 (x7 * x8) ≤ x10 then P (.inr x9) else (¬ x8 = 0 ∧ (¬ x8 = 0 ∧ F_X12_cellAt 40 (w32 (x1 + (w32 (Int.tdiv x10 x8)))) (w32 (x2 + (w32 (Int.tmod x10 x8)))) u (fun x_138 => F_X12_isFormula x_138 (fun x_147 => (if x_147 = 0 then F_X12_copy_166 x1 x2 x5 x6 x7 x8 x10 x9 0 u P else (0 ≤ w32 (x_138 - 1) ∧ w32 (x_138 - 1) < 60420 ∧ F_X12_copy_166 x1 x2 x5 x6 x7 x8 x10 x9 (mI u 38 (w32 (x_138 - 1))) u P)))))))
theorem U_X12_copy_111  {x1 : Int} {x2 : Int} {x5 : Int} {x6 : Int} {x7 : Int} {x8 : Int} {x9 : Int} {x10 : Int} {u : Mu} {P : (Int × Int) ⊕ ((Int)) → Prop} {h : Hp} {g : Nat → Nat} {post : Option Sv ⊕ String → Hp → Prop} (r_x1 : R32 x1) (r_x2 : R32 x2) (r_x5 : R32 x5) (r_x6 : R32 x6) (r_x7 : R32 x7) (r_x8 : R32 x8) (r_x9 : R32 x9) (r_x10 : R32 x10) (m : Ms h g u)  (hl : ∀ (x9 : Int) (x10 : Int), P (.inl (x9, x10)) → R32 x9 → R32 x10 → J mX12_copy 6 0 0 post 111 [some (vr (some (g 0))), some (ii (x1)), some (ii (x2)), none, none, some (ii (x5)), some (ii (x6)), some (ii (x7)), some (ii (x8)), some (ii (x9)), some (ii (x10)), none, none] [] h) (he0 : ∀ (x9 : Int), P (.inr x9) → R32 x9 → J mX12_copy 6 0 0 post 175 [some (vr (some (g 0))), some (ii (x1)), some (ii (x2)), none, none, some (ii (x5)), some (ii (x6)), some (ii (x7)), some (ii (x8)), some (ii (x9)), none, none, none] [] h) (H : L_X12_copy_111 x1 x2 x5 x6 x7 x8 x9 x10 u P) : J mX12_copy 6 0 0 post 111 [some (vr (some (g 0))), some (ii (x1)), some (ii (x2)), none, none, some (ii (x5)), some (ii (x6)), some (ii (x7)), some (ii (x8)), some (ii (x9)), some (ii (x10)), none, none] [] h := by
  unfold L_X12_copy_111 at H
  refine j_iload (dk dt_X12_copy 65 rfl) rfl ?_
  refine j_iload (dk dt_X12_copy 66 rfl) rfl ?_
  refine j_iload (dk dt_X12_copy 67 rfl) rfl ?_
  refine jz_imul (dk dt_X12_copy 68 rfl) ?_
  refine jz_icmp_ge 175 (dk dt_X12_copy 69 rfl) (by decide) r_x10 (r32_w _) H (fun H => ?_) (fun H => ?_)
  · exact j_el (he0 _ H r_x9) (And.intro rfl (And.intro rfl (And.intro rfl (And.intro rfl (And.intro rfl (And.intro rfl (And.intro rfl (And.intro rfl trivial))))))))
  · refine j_aload_n (dk dt_X12_copy 70 rfl) rfl ?_
    refine j_bipush (v := Int32.ofInt 40) (dk dt_X12_copy 71 rfl) (by decide) ?_
    refine j_iload_n (dk dt_X12_copy 72 rfl) rfl ?_
    refine j_iload (dk dt_X12_copy 73 rfl) rfl ?_
    refine j_iload (dk dt_X12_copy 74 rfl) rfl ?_
    obtain ⟨n_129, H⟩ := H
    refine jz_idiv (dk dt_X12_copy 75 rfl) r_x10 r_x8 n_129 ?_
    refine jz_iadd (dk dt_X12_copy 76 rfl) ?_
    refine j_iload_n (dk dt_X12_copy 77 rfl) rfl ?_
    refine j_iload (dk dt_X12_copy 78 rfl) rfl ?_
    refine j_iload (dk dt_X12_copy 79 rfl) rfl ?_
    obtain ⟨n_136, H⟩ := H
    refine jz_irem (dk dt_X12_copy 80 rfl) r_x10 r_x8 n_136 ?_
    refine jz_iadd (dk dt_X12_copy 81 rfl) ?_
    refine jz_callV3 (dk dt_X12_copy 82 rfl) vl_X12_812 rfl (T_X12_cellAt (by decide) (r32_w _) (r32_w _) m H) m.1.1 rfl (by decide) (Nat.zero_le _) (Nat.zero_le _) (Nat.le_of_ble_eq_true rfl) (fun v_138 h_138 P_138 => ?_)
    obtain ⟨x_138, rfl, r_138, rfl, H⟩ := P_138
    dsimp only [rs]
    refine j_istore (dk dt_X12_copy 83 rfl) (by decide) ?_
    refine j_iload (dk dt_X12_copy 84 rfl) rfl ?_
    refine j_iload (dk dt_X12_copy 85 rfl) rfl ?_
    refine j_callS1 (dk dt_X12_copy 86 rfl) sl_X12_244 (T_X12_isFormula r_138 H) rfl (by decide) (Nat.zero_le _) (Nat.zero_le _) (Nat.le_of_ble_eq_true rfl) (fun v_147 h_147 P_147 => ?_)
    obtain ⟨x_147, rfl, r_147, rfl, H⟩ := P_147
    dsimp only [rs]
    refine jz_if_eq 165 (dk dt_X12_copy 87 rfl) (by decide) r_147 H (fun H => ?_) (fun H => ?_)
    · refine j_iconst (v := Int32.ofInt 0) (dk dt_X12_copy 95 rfl) (by decide) ?_
      exact j_el (T_X12_copy_166 r_x1 r_x2 r_x5 r_x6 r_x7 r_x8 r_x10 r_x9 (by decide) m  hl he0 H) (And.intro rfl (And.intro rfl (And.intro rfl (And.intro rfl (And.intro rfl (And.intro rfl (And.intro rfl (And.intro rfl trivial))))))))
    · refine j_aload_n (dk dt_X12_copy 88 rfl) rfl ?_
      refine jm_getA (dk dt_X12_copy 89 rfl) fl_X12_103 rfl (c := 14) rfl m ?_
      refine j_iload (dk dt_X12_copy 90 rfl) rfl ?_
      refine j_iconst (v := Int32.ofInt 1) (dk dt_X12_copy 91 rfl) (by decide) ?_
      refine jz_isub (dk dt_X12_copy 92 rfl) ?_
      obtain ⟨p_161, q_161, H⟩ := H
      refine jm_iald (dk dt_X12_copy 93 rfl) rfl rfl m p_161 q_161 ?_
      refine j_goto 166 (dk dt_X12_copy 94 rfl) (by decide) ?_
      exact j_el (T_X12_copy_166 r_x1 r_x2 r_x5 r_x6 r_x7 r_x8 r_x10 r_x9 (m.2.1.1 _ _) m  hl he0 H) (And.intro rfl (And.intro rfl (And.intro rfl (And.intro rfl (And.intro rfl (And.intro rfl (And.intro rfl (And.intro rfl trivial))))))))
def F_X12_copy_259  (x1 : Int) (x2 : Int) (x5 : Int) (x6 : Int) (x7 : Int) (x8 : Int) (x10 : Int) (x11 : Int) (x12 : Int) (u : Mu) (P : (Int × Mu) ⊕ ((Mu)) → Prop) : Prop :=
  (¬ x8 = 0 ∧ (¬ x8 = 0 ∧ F_X12_setCell (w32 (x5 + (w32 (Int.tdiv x11 x8)))) (w32 (x6 + (w32 (Int.tmod x11 x8)))) x12 u (fun u_278 => P (.inl (w32 (x11 + 1), u_278)))))
theorem T_X12_copy_259  {x1 : Int} {x2 : Int} {x5 : Int} {x6 : Int} {x7 : Int} {x8 : Int} {x10 : Int} {x11 : Int} {x12 : Int} {u : Mu} {P : (Int × Mu) ⊕ ((Mu)) → Prop} {h : Hp} {g : Nat → Nat} {post : Option Sv ⊕ String → Hp → Prop} (r_x1 : R32 x1) (r_x2 : R32 x2) (r_x5 : R32 x5) (r_x6 : R32 x6) (r_x7 : R32 x7) (r_x8 : R32 x8) (r_x10 : R32 x10) (r_x11 : R32 x11) (r_x12 : R32 x12) (m : Ms h g u)  (hl : ∀ (x11 : Int) (u : Mu) (h : Hp), P (.inl (x11, u)) → Ms h g u → R32 x11 → J mX12_copy 6 0 0 post 203 [some (vr (some (g 0))), some (ii (x1)), some (ii (x2)), none, none, some (ii (x5)), some (ii (x6)), some (ii (x7)), some (ii (x8)), none, some (ii (x10)), some (ii (x11)), none] [] h) (he0 : ∀ (u : Mu) (h : Hp), P (.inr u) → Ms h g u → J mX12_copy 6 0 0 post 287 [none, none, none, none, none, none, none, some (ii (x7)), some (ii (x8)), none, none, none, none] [] h) (H : F_X12_copy_259 x1 x2 x5 x6 x7 x8 x10 x11 x12 u P) : J mX12_copy 6 0 0 (post) 259 [some (vr (some (g 0))), some (ii (x1)), some (ii (x2)), none, none, some (ii (x5)), some (ii (x6)), some (ii (x7)), some (ii (x8)), none, some (ii (x10)), some (ii (x11)), some (ii (x12))] [] h := by
  unfold F_X12_copy_259 at H
  refine j_aload_n (dk dt_X12_copy 147 rfl) rfl ?_
  refine j_iload (dk dt_X12_copy 148 rfl) rfl ?_
  refine j_iload (dk dt_X12_copy 149 rfl) rfl ?_
  refine j_iload (dk dt_X12_copy 150 rfl) rfl ?_
  obtain ⟨n_266, H⟩ := H
  refine jz_idiv (dk dt_X12_copy 151 rfl) r_x11 r_x8 n_266 ?_
  refine jz_iadd (dk dt_X12_copy 152 rfl) ?_
  refine j_iload (dk dt_X12_copy 153 rfl) rfl ?_
  refine j_iload (dk dt_X12_copy 154 rfl) rfl ?_
  refine j_iload (dk dt_X12_copy 155 rfl) rfl ?_
  obtain ⟨n_274, H⟩ := H
  refine jz_irem (dk dt_X12_copy 156 rfl) r_x11 r_x8 n_274 ?_
  refine jz_iadd (dk dt_X12_copy 157 rfl) ?_
  refine j_iload (dk dt_X12_copy 158 rfl) rfl ?_
  refine jz_callV3 (dk dt_X12_copy 159 rfl) vl_X12_343 rfl (T_X12_setCell (r32_w _) (r32_w _) r_x12 m H) m.1.1 rfl (by decide) (Nat.zero_le _) (Nat.zero_le _) (Nat.le_of_ble_eq_true rfl) (fun v_278 h_278 P_278 => ?_)
  obtain ⟨u_278, rfl, m_278, H⟩ := P_278
  dsimp only [rs]
  refine jz_iinc (dk dt_X12_copy 160 rfl) rfl ?_
  refine j_goto 203 (dk dt_X12_copy 161 rfl) (by decide) ?_
  exact j_el (hl _ _ _ H m_278 (r32_w _)) (And.intro rfl (And.intro rfl (And.intro rfl (And.intro rfl (And.intro rfl (And.intro rfl (And.intro rfl (And.intro rfl (And.intro rfl trivial)))))))))
def L_X12_copy_203  (x1 : Int) (x2 : Int) (x5 : Int) (x6 : Int) (x7 : Int) (x8 : Int) (x10 : Int) (x11 : Int) (u : Mu) (P : (Int × Mu) ⊕ ((Mu)) → Prop) : Prop :=
  (if w32 (x7 * x8) ≤ x11 then P (.inr u) else (¬ x8 = 0 ∧ (¬ x8 = 0 ∧ F_X12_cellAt x10 (w32 (x1 + (w32 (Int.tdiv x11 x8)))) (w32 (x2 + (w32 (Int.tmod x11 x8)))) u (fun x_230 => F_X12_isFormula x_230 (fun x_237 => (if x_237 = 0 then F_X12_copy_259 x1 x2 x5 x6 x7 x8 x10 x11 x_230 u P else F_X12_copyFormula x_230 (w32 (x5 - x1)) (w32 (x6 - x2)) u (fun x_254 u_254 => F_X12_copy_259 x1 x2 x5 x6 x7 x8 x10 x11 x_254 u_254 P)))))))
theorem U_X12_copy_203  {x1 : Int} {x2 : Int} {x5 : Int} {x6 : Int} {x7 : Int} {x8 : Int} {x10 : Int} {x11 : Int} {u : Mu} {P : (Int × Mu) ⊕ ((Mu)) → Prop} {h : Hp} {g : Nat → Nat} {post : Option Sv ⊕ String → Hp → Prop} (r_x1 : R32 x1) (r_x2 : R32 x2) (r_x5 : R32 x5) (r_x6 : R32 x6) (r_x7 : R32 x7) (r_x8 : R32 x8) (r_x10 : R32 x10) (r_x11 : R32 x11) (m : Ms h g u)  (hl : ∀ (x11 : Int) (u : Mu) (h : Hp), P (.inl (x11, u)) → Ms h g u → R32 x11 → J mX12_copy 6 0 0 post 203 [some (vr (some (g 0))), some (ii (x1)), some (ii (x2)), none, none, some (ii (x5)), some (ii (x6)), some (ii (x7)), some (ii (x8)), none, some (ii (x10)), some (ii (x11)), none] [] h) (he0 : ∀ (u : Mu) (h : Hp), P (.inr u) → Ms h g u → J mX12_copy 6 0 0 post 287 [none, none, none, none, none, none, none, some (ii (x7)), some (ii (x8)), none, none, none, none] [] h) (H : L_X12_copy_203 x1 x2 x5 x6 x7 x8 x10 x11 u P) : J mX12_copy 6 0 0 post 203 [some (vr (some (g 0))), some (ii (x1)), some (ii (x2)), none, none, some (ii (x5)), some (ii (x6)), some (ii (x7)), some (ii (x8)), none, some (ii (x10)), some (ii (x11)), none] [] h := by
  unfold L_X12_copy_203 at H
  refine j_iload (dk dt_X12_copy 115 rfl) rfl ?_
  refine j_iload (dk dt_X12_copy 116 rfl) rfl ?_
  refine j_iload (dk dt_X12_copy 117 rfl) rfl ?_
  refine jz_imul (dk dt_X12_copy 118 rfl) ?_
  refine jz_icmp_ge 287 (dk dt_X12_copy 119 rfl) (by decide) r_x11 (r32_w _) H (fun H => ?_) (fun H => ?_)
  · exact j_el (he0 _ _ H m) (And.intro rfl (And.intro rfl trivial))
  · refine j_aload_n (dk dt_X12_copy 120 rfl) rfl ?_
    refine j_iload (dk dt_X12_copy 121 rfl) rfl ?_
    refine j_iload_n (dk dt_X12_copy 122 rfl) rfl ?_
    refine j_iload (dk dt_X12_copy 123 rfl) rfl ?_
    refine j_iload (dk dt_X12_copy 124 rfl) rfl ?_
    obtain ⟨n_221, H⟩ := H
    refine jz_idiv (dk dt_X12_copy 125 rfl) r_x11 r_x8 n_221 ?_
    refine jz_iadd (dk dt_X12_copy 126 rfl) ?_
    refine j_iload_n (dk dt_X12_copy 127 rfl) rfl ?_
    refine j_iload (dk dt_X12_copy 128 rfl) rfl ?_
    refine j_iload (dk dt_X12_copy 129 rfl) rfl ?_
    obtain ⟨n_228, H⟩ := H
    refine jz_irem (dk dt_X12_copy 130 rfl) r_x11 r_x8 n_228 ?_
    refine jz_iadd (dk dt_X12_copy 131 rfl) ?_
    refine jz_callV3 (dk dt_X12_copy 132 rfl) vl_X12_812 rfl (T_X12_cellAt r_x10 (r32_w _) (r32_w _) m H) m.1.1 rfl (by decide) (Nat.zero_le _) (Nat.zero_le _) (Nat.le_of_ble_eq_true rfl) (fun v_230 h_230 P_230 => ?_)
    obtain ⟨x_230, rfl, r_230, rfl, H⟩ := P_230
    dsimp only [rs]
    refine j_istore (dk dt_X12_copy 133 rfl) (by decide) ?_
    refine j_iload (dk dt_X12_copy 134 rfl) rfl ?_
    refine j_callS1 (dk dt_X12_copy 135 rfl) sl_X12_244 (T_X12_isFormula r_230 H) rfl (by decide) (Nat.zero_le _) (Nat.zero_le _) (Nat.le_of_ble_eq_true rfl) (fun v_237 h_237 P_237 => ?_)
    obtain ⟨x_237, rfl, r_237, rfl, H⟩ := P_237
    dsimp only [rs]
    refine jz_if_eq 259 (dk dt_X12_copy 136 rfl) (by decide) r_237 H (fun H => ?_) (fun H => ?_)
    · exact j_el (T_X12_copy_259 r_x1 r_x2 r_x5 r_x6 r_x7 r_x8 r_x10 r_x11 r_230 m  hl he0 H) (And.intro rfl (And.intro rfl (And.intro rfl (And.intro rfl (And.intro rfl (And.intro rfl (And.intro rfl (And.intro rfl (And.intro rfl (And.intro rfl trivial))))))))))
    · refine j_aload_n (dk dt_X12_copy 137 rfl) rfl ?_
      refine j_iload (dk dt_X12_copy 138 rfl) rfl ?_
      refine j_iload (dk dt_X12_copy 139 rfl) rfl ?_
      refine j_iload_n (dk dt_X12_copy 140 rfl) rfl ?_
      refine jz_isub (dk dt_X12_copy 141 rfl) ?_
      refine j_iload (dk dt_X12_copy 142 rfl) rfl ?_
      refine j_iload_n (dk dt_X12_copy 143 rfl) rfl ?_
      refine jz_isub (dk dt_X12_copy 144 rfl) ?_
      refine jz_callV3 (dk dt_X12_copy 145 rfl) vl_X12_847 rfl (T_X12_copyFormula r_230 (r32_w _) (r32_w _) m H) m.1.1 rfl (by decide) (Nat.zero_le _) (Nat.zero_le _) (Nat.le_of_ble_eq_true rfl) (fun v_254 h_254 P_254 => ?_)
      obtain ⟨x_254, u_254, rfl, r_254, m_254, H⟩ := P_254
      dsimp only [rs]
      refine j_istore (dk dt_X12_copy 146 rfl) (by decide) ?_
      exact j_el (T_X12_copy_259 r_x1 r_x2 r_x5 r_x6 r_x7 r_x8 r_x10 r_x11 r_254 m_254  hl he0 H) (And.intro rfl (And.intro rfl (And.intro rfl (And.intro rfl (And.intro rfl (And.intro rfl (And.intro rfl (And.intro rfl (And.intro rfl (And.intro rfl trivial))))))))))
def F_X12_copy_203  (x1 : Int) (x2 : Int) (x5 : Int) (x6 : Int) (x7 : Int) (x8 : Int) (x10 : Int) (x11 : Int) (u : Mu) (P : Int → Mu → Prop) : Prop :=
  lp (S := Int × Mu) (E := (Mu)) (fun q P_ => L_X12_copy_203 x1 x2 x5 x6 x7 x8 x10 q.1 q.2 P_) (x11, u) (fun (u : Mu) => P (w32 (x7 * x8)) u)
theorem T_X12_copy_203  {x1 : Int} {x2 : Int} {x5 : Int} {x6 : Int} {x7 : Int} {x8 : Int} {x10 : Int} {x11 : Int} {u : Mu} {P : Int → Mu → Prop} {h : Hp} {g : Nat → Nat} (r_x1 : R32 x1) (r_x2 : R32 x2) (r_x5 : R32 x5) (r_x6 : R32 x6) (r_x7 : R32 x7) (r_x8 : R32 x8) (r_x10 : R32 x10) (r_x11 : R32 x11) (m : Ms h g u)   (H : F_X12_copy_203 x1 x2 x5 x6 x7 x8 x10 x11 u P) : J mX12_copy 6 0 0 (nx (QMI g P)) 203 [some (vr (some (g 0))), some (ii (x1)), some (ii (x2)), none, none, some (ii (x5)), some (ii (x6)), some (ii (x7)), some (ii (x8)), none, some (ii (x10)), some (ii (x11)), none] [] h := by
  unfold F_X12_copy_203 at H
  refine lp_J (G := fun q => ∀ h : Hp, Ms h g (q.2) → R32 (q.1) → J mX12_copy 6 0 0 (nx (QMI g P)) 203 [some (vr (some (g 0))), some (ii (x1)), some (ii (x2)), none, none, some (ii (x5)), some (ii (x6)), some (ii (x7)), some (ii (x8)), none, some (ii (x10)), some (ii ((q.1))), none] [] h) (fun q P_ hl_ he_ Hb => ?_) (x11, u) H _ m r_x11
  obtain ⟨x11, u⟩ := q
  intro h m r_x11
  refine U_X12_copy_203 (P := P_) r_x1 r_x2 r_x5 r_x6 r_x7 r_x8 r_x10 r_x11 m  (fun x11 u h Hp m r_x11 => hl_ (x11, u) Hp h m r_x11) ?_ Hb
  · intro u h Hp m
    have H := he_ _ Hp
    refine j_iload (dk dt_X12_copy 162 rfl) rfl ?_
    refine j_iload (dk dt_X12_copy 163 rfl) rfl ?_
    refine jz_imul (dk dt_X12_copy 164 rfl) ?_
    exact j_ireturn (dk dt_X12_copy 165 rfl) rfl rfl ⟨_, _, rfl, (r32_w _), m, H⟩
def F_X12_copy_111  (x1 : Int) (x2 : Int) (x5 : Int) (x6 : Int) (x7 : Int) (x8 : Int) (x9 : Int) (x10 : Int) (u : Mu) (P : Int → Mu → Prop) : Prop :=
  lp (S := Int × Int) (E := (Int)) (fun q P_ => L_X12_copy_111 x1 x2 x5 x6 x7 x8 q.1 q.2 u P_) (x9, x10) (fun (x9 : Int) => (if w32 (mI u 0 25 + x9) ≤ 60000 then F_X12_step u (fun x_195 u_195 => F_X12_copy_203 x1 x2 x5 x6 x7 x8 x_195 0 u_195 P) else F_X12_throwing 3 u (fun x_190 u_190 => P x_190 u_190)))
theorem T_X12_copy_111  {x1 : Int} {x2 : Int} {x5 : Int} {x6 : Int} {x7 : Int} {x8 : Int} {x9 : Int} {x10 : Int} {u : Mu} {P : Int → Mu → Prop} {h : Hp} {g : Nat → Nat} (r_x1 : R32 x1) (r_x2 : R32 x2) (r_x5 : R32 x5) (r_x6 : R32 x6) (r_x7 : R32 x7) (r_x8 : R32 x8) (r_x9 : R32 x9) (r_x10 : R32 x10) (m : Ms h g u)   (H : F_X12_copy_111 x1 x2 x5 x6 x7 x8 x9 x10 u P) : J mX12_copy 6 0 0 (nx (QMI g P)) 111 [some (vr (some (g 0))), some (ii (x1)), some (ii (x2)), none, none, some (ii (x5)), some (ii (x6)), some (ii (x7)), some (ii (x8)), some (ii (x9)), some (ii (x10)), none, none] [] h := by
  unfold F_X12_copy_111 at H
  refine lp_J (G := fun q => R32 (q.1) → R32 (q.2) → J mX12_copy 6 0 0 (nx (QMI g P)) 111 [some (vr (some (g 0))), some (ii (x1)), some (ii (x2)), none, none, some (ii (x5)), some (ii (x6)), some (ii (x7)), some (ii (x8)), some (ii ((q.1))), some (ii ((q.2))), none, none] [] h) (fun q P_ hl_ he_ Hb => ?_) (x9, x10) H r_x9 r_x10
  obtain ⟨x9, x10⟩ := q
  intro r_x9 r_x10
  refine U_X12_copy_111 (P := P_) r_x1 r_x2 r_x5 r_x6 r_x7 r_x8 r_x9 r_x10 m  (fun x9 x10 Hp r_x9 r_x10 => hl_ (x9, x10) Hp r_x9 r_x10) ?_ Hb
  · intro x9 Hp r_x9
    have H := he_ _ Hp
    refine j_aload_n (dk dt_X12_copy 100 rfl) rfl ?_
    refine jm_getI (kz := 25) (dk dt_X12_copy 101 rfl) fl_X12_336 rfl rfl m ?_
    refine j_iload (dk dt_X12_copy 102 rfl) rfl ?_
    refine jz_iadd (dk dt_X12_copy 103 rfl) ?_
    refine j_ldcw (v := Int32.ofInt (60000)) (dk dt_X12_copy 104 rfl) (by exact kl_X12_339) ?_
    refine jz_icmp_le 194 (dk dt_X12_copy 105 rfl) (by decide) (r32_w _) (by decide) H (fun H => ?_) (fun H => ?_)
    · refine j_aload_n (dk dt_X12_copy 110 rfl) rfl ?_
      refine jz_callV0 (dk dt_X12_copy 111 rfl) vl_X12_340 rfl (T_X12_step m H) m.1.1 rfl (by decide) (Nat.zero_le _) (Nat.zero_le _) (Nat.le_of_ble_eq_true rfl) (fun v_195 h_195 P_195 => ?_)
      obtain ⟨x_195, u_195, rfl, r_195, m_195, H⟩ := P_195
      dsimp only [rs]
      refine j_istore (dk dt_X12_copy 112 rfl) (by decide) ?_
      refine j_iconst (v := Int32.ofInt 0) (dk dt_X12_copy 113 rfl) (by decide) ?_
      refine j_istore (dk dt_X12_copy 114 rfl) (by decide) ?_
      exact j_el (T_X12_copy_203 r_x1 r_x2 r_x5 r_x6 r_x7 r_x8 r_195 (by decide) m_195   H) (And.intro rfl (And.intro rfl (And.intro rfl (And.intro rfl (And.intro rfl (And.intro rfl (And.intro rfl (And.intro rfl (And.intro rfl trivial)))))))))
    · refine j_aload_n (dk dt_X12_copy 106 rfl) rfl ?_
      refine j_iconst (v := Int32.ofInt 3) (dk dt_X12_copy 107 rfl) (by decide) ?_
      refine jz_callV1 (dk dt_X12_copy 108 rfl) vl_X12_237 rfl (T_X12_throwing (by decide) m H) m.1.1 rfl (by decide) (Nat.zero_le _) (Nat.zero_le _) (Nat.le_of_ble_eq_true rfl) (fun v_190 h_190 P_190 => ?_)
      obtain ⟨x_190, u_190, rfl, r_190, m_190, H⟩ := P_190
      dsimp only [rs]
      exact j_ireturn (dk dt_X12_copy 109 rfl) rfl rfl ⟨_, _, rfl, r_190, m_190, H⟩
def F_X12_copy  (x1 : Int) (x2 : Int) (x3 : Int) (x4 : Int) (x5 : Int) (x6 : Int) (u : Mu) (P : Int → Mu → Prop) : Prop :=
  (∀ u_2, u_2 = uI u 0 0 0 → F_X12_isCell 40 x1 x2 u_2 (fun x_10 => (if x_10 = 0 then F_X12_copy_41 u_2 P else F_X12_isCell 40 x3 x4 u_2 (fun x_22 => (if x_22 = 0 then F_X12_copy_41 u_2 P else F_X12_isCell 40 x5 x6 u_2 (fun x_35 => (if x_35 = 0 then F_X12_copy_41 u_2 P else (if x3 < x1 then F_X12_copy_58 u_2 P else (if x2 ≤ x4 then F_X12_least (w32 (x3 - x1)) (w32 ((mI u_2 1 40) - x5)) (fun x_77 => F_X12_least (w32 (x4 - x2)) (w32 ((mI u_2 2 40) - x6)) (fun x_98 => F_X12_copy_111 x1 x2 x5 x6 (w32 (x_77 + 1)) (w32 (x_98 + 1)) 0 0 u_2 P)) else F_X12_copy_58 u_2 P)))))))))
theorem T_X12_copy  {x1 : Int} {x2 : Int} {x3 : Int} {x4 : Int} {x5 : Int} {x6 : Int} {u : Mu} {P : Int → Mu → Prop} {h : Hp} {g : Nat → Nat} (r_x1 : R32 x1) (r_x2 : R32 x2) (r_x3 : R32 x3) (r_x4 : R32 x4) (r_x5 : R32 x5) (r_x6 : R32 x6) (m : Ms h g u)  (H : F_X12_copy x1 x2 x3 x4 x5 x6 u P) : Con mX12_copy 6 0 0 [vr (some (g 0)), ii (x1), ii (x2), ii (x3), ii (x4), ii (x5), ii (x6)] h (QMI g P) := by
  refine con_of rfl (Nat.le_of_ble_eq_true rfl) (by decide) ?_
  show J mX12_copy 6 0 0 _ 0 [some (vr (some (g 0))), some (ii (x1)), some (ii (x2)), some (ii (x3)), some (ii (x4)), some (ii (x5)), some (ii (x6)), none, none, none, none, none, none] [] h
  unfold F_X12_copy at H
  refine j_aload_n (dk dt_X12_copy 0 rfl) rfl ?_
  refine j_iconst (v := Int32.ofInt 0) (dk dt_X12_copy 1 rfl) (by decide) ?_
  refine jm_putI (kz := 0) (dk dt_X12_copy 2 rfl) fl_X12_202 rfl rfl rfl rfl m (by decide) (fun h_2 m_2 => ?_)
  replace H := H _ rfl
  refine j_aload_n (dk dt_X12_copy 3 rfl) rfl ?_
  refine j_bipush (v := Int32.ofInt 40) (dk dt_X12_copy 4 rfl) (by decide) ?_
  refine j_iload_n (dk dt_X12_copy 5 rfl) rfl ?_
  refine j_iload_n (dk dt_X12_copy 6 rfl) rfl ?_
  refine jz_callV3 (dk dt_X12_copy 7 rfl) vl_X12_321 rfl (T_X12_isCell (by decide) r_x1 r_x2 m_2 H) m_2.1.1 rfl (by decide) (Nat.zero_le _) (Nat.zero_le _) (Nat.le_of_ble_eq_true rfl) (fun v_10 h_10 P_10 => ?_)
  obtain ⟨x_10, rfl, r_10, rfl, H⟩ := P_10
  dsimp only [rs]
  refine jz_if_eq 41 (dk dt_X12_copy 8 rfl) (by decide) r_10 H (fun H => ?_) (fun H => ?_)
  · exact j_el (T_X12_copy_41  m_2   H) (And.intro rfl trivial)
  · refine j_aload_n (dk dt_X12_copy 9 rfl) rfl ?_
    refine j_bipush (v := Int32.ofInt 40) (dk dt_X12_copy 10 rfl) (by decide) ?_
    refine j_iload_n (dk dt_X12_copy 11 rfl) rfl ?_
    refine j_iload (dk dt_X12_copy 12 rfl) rfl ?_
    refine jz_callV3 (dk dt_X12_copy 13 rfl) vl_X12_321 rfl (T_X12_isCell (by decide) r_x3 r_x4 m_2 H) m_2.1.1 rfl (by decide) (Nat.zero_le _) (Nat.zero_le _) (Nat.le_of_ble_eq_true rfl) (fun v_22 h_22 P_22 => ?_)
    obtain ⟨x_22, rfl, r_22, rfl, H⟩ := P_22
    dsimp only [rs]
    refine jz_if_eq 41 (dk dt_X12_copy 14 rfl) (by decide) r_22 H (fun H => ?_) (fun H => ?_)
    · exact j_el (T_X12_copy_41  m_2   H) (And.intro rfl trivial)
    · refine j_aload_n (dk dt_X12_copy 15 rfl) rfl ?_
      refine j_bipush (v := Int32.ofInt 40) (dk dt_X12_copy 16 rfl) (by decide) ?_
      refine j_iload (dk dt_X12_copy 17 rfl) rfl ?_
      refine j_iload (dk dt_X12_copy 18 rfl) rfl ?_
      refine jz_callV3 (dk dt_X12_copy 19 rfl) vl_X12_321 rfl (T_X12_isCell (by decide) r_x5 r_x6 m_2 H) m_2.1.1 rfl (by decide) (Nat.zero_le _) (Nat.zero_le _) (Nat.le_of_ble_eq_true rfl) (fun v_35 h_35 P_35 => ?_)
      obtain ⟨x_35, rfl, r_35, rfl, H⟩ := P_35
      dsimp only [rs]
      refine jz_if_ne 47 (dk dt_X12_copy 20 rfl) (by decide) r_35 H (fun H => ?_) (fun H => ?_)
      · exact j_el (T_X12_copy_41  m_2   H) (And.intro rfl trivial)
      · refine j_iload_n (dk dt_X12_copy 25 rfl) rfl ?_
        refine j_iload_n (dk dt_X12_copy 26 rfl) rfl ?_
        refine jz_icmp_lt 58 (dk dt_X12_copy 27 rfl) (by decide) r_x3 r_x1 H (fun H => ?_) (fun H => ?_)
        · exact j_el (T_X12_copy_58  m_2   H) (And.intro rfl trivial)
        · refine j_iload (dk dt_X12_copy 28 rfl) rfl ?_
          refine j_iload_n (dk dt_X12_copy 29 rfl) rfl ?_
          refine jz_icmp_ge 64 (dk dt_X12_copy 30 rfl) (by decide) r_x4 r_x2 H (fun H => ?_) (fun H => ?_)
          · refine j_iload_n (dk dt_X12_copy 35 rfl) rfl ?_
            refine j_iload_n (dk dt_X12_copy 36 rfl) rfl ?_
            refine jz_isub (dk dt_X12_copy 37 rfl) ?_
            refine j_aload_n (dk dt_X12_copy 38 rfl) rfl ?_
            refine jm_getA (dk dt_X12_copy 39 rfl) fl_X12_7 rfl (c := 14) rfl m_2 ?_
            refine j_bipush (v := Int32.ofInt 40) (dk dt_X12_copy 40 rfl) (by decide) ?_
            refine jm_iald (dk dt_X12_copy 41 rfl) rfl rfl m_2 (by decide) (by decide) ?_
            refine j_iload (dk dt_X12_copy 42 rfl) rfl ?_
            refine jz_isub (dk dt_X12_copy 43 rfl) ?_
            refine j_callS2 (dk dt_X12_copy 44 rfl) sl_X12_564 (T_X12_least (r32_w _) (r32_w _) H) rfl (by decide) (Nat.zero_le _) (Nat.zero_le _) (Nat.le_of_ble_eq_true rfl) (fun v_77 h_77 P_77 => ?_)
            obtain ⟨x_77, rfl, r_77, rfl, H⟩ := P_77
            dsimp only [rs]
            refine j_iconst (v := Int32.ofInt 1) (dk dt_X12_copy 45 rfl) (by decide) ?_
            refine jz_iadd (dk dt_X12_copy 46 rfl) ?_
            refine j_istore (dk dt_X12_copy 47 rfl) (by decide) ?_
            refine j_iload (dk dt_X12_copy 48 rfl) rfl ?_
            refine j_iload_n (dk dt_X12_copy 49 rfl) rfl ?_
            refine jz_isub (dk dt_X12_copy 50 rfl) ?_
            refine j_aload_n (dk dt_X12_copy 51 rfl) rfl ?_
            refine jm_getA (dk dt_X12_copy 52 rfl) fl_X12_13 rfl (c := 14) rfl m_2 ?_
            refine j_bipush (v := Int32.ofInt 40) (dk dt_X12_copy 53 rfl) (by decide) ?_
            refine jm_iald (dk dt_X12_copy 54 rfl) rfl rfl m_2 (by decide) (by decide) ?_
            refine j_iload (dk dt_X12_copy 55 rfl) rfl ?_
            refine jz_isub (dk dt_X12_copy 56 rfl) ?_
            refine j_callS2 (dk dt_X12_copy 57 rfl) sl_X12_564 (T_X12_least (r32_w _) (r32_w _) H) rfl (by decide) (Nat.zero_le _) (Nat.zero_le _) (Nat.le_of_ble_eq_true rfl) (fun v_98 h_98 P_98 => ?_)
            obtain ⟨x_98, rfl, r_98, rfl, H⟩ := P_98
            dsimp only [rs]
            refine j_iconst (v := Int32.ofInt 1) (dk dt_X12_copy 58 rfl) (by decide) ?_
            refine jz_iadd (dk dt_X12_copy 59 rfl) ?_
            refine j_istore (dk dt_X12_copy 60 rfl) (by decide) ?_
            refine j_iconst (v := Int32.ofInt 0) (dk dt_X12_copy 61 rfl) (by decide) ?_
            refine j_istore (dk dt_X12_copy 62 rfl) (by decide) ?_
            refine j_iconst (v := Int32.ofInt 0) (dk dt_X12_copy 63 rfl) (by decide) ?_
            refine j_istore (dk dt_X12_copy 64 rfl) (by decide) ?_
            exact j_el (T_X12_copy_111 r_x1 r_x2 r_x5 r_x6 (r32_w _) (r32_w _) (by decide) (by decide) m_2   H) (And.intro rfl (And.intro rfl (And.intro rfl (And.intro rfl (And.intro rfl (And.intro rfl (And.intro rfl (And.intro rfl (And.intro rfl trivial)))))))))
          · exact j_el (T_X12_copy_58  m_2   H) (And.intro rfl trivial)
def F_X12_isDigit  (x0 : Int) (P : Int → Prop) : Prop :=
  F_X12_in x0 48 57 (fun x_5 => (Z1 x_5 ∧ P x_5))
theorem T_X12_isDigit  {x0 : Int} {P : Int → Prop} {h : Hp} (r_x0 : R32 x0)   (H : F_X12_isDigit x0 P) : Con mX12_isDigit 2 0 0 [ii (x0)] h (QPI h P) := by
  refine con_of rfl (Nat.le_of_ble_eq_true rfl) (by decide) ?_
  show J mX12_isDigit 2 0 0 _ 0 [some (ii (x0))] [] h
  unfold F_X12_isDigit at H
  refine j_iload_n (dk dt_X12_isDigit 0 rfl) rfl ?_
  refine j_bipush (v := Int32.ofInt 48) (dk dt_X12_isDigit 1 rfl) (by decide) ?_
  refine j_bipush (v := Int32.ofInt 57) (dk dt_X12_isDigit 2 rfl) (by decide) ?_
  refine j_callS3 (dk dt_X12_isDigit 3 rfl) sl_X12_220 (T_X12_in r_x0 (by decide) (by decide) H) rfl (by decide) (Nat.zero_le _) (Nat.zero_le _) (Nat.le_of_ble_eq_true rfl) (fun v_5 h_5 P_5 => ?_)
  obtain ⟨x_5, rfl, r_5, rfl, H⟩ := P_5
  dsimp only [rs]
  obtain ⟨hz_, H⟩ := H
  exact j_ireturn (dk dt_X12_isDigit 4 rfl) rfl (nar_z hz_) ⟨_, rfl, r_5, rfl, H⟩
def F_X12_isLetter  (x0 : Int) (P : Int → Prop) : Prop :=
  F_X12_in x0 65 90 (fun x_5 => (Z1 x_5 ∧ P x_5))
theorem T_X12_isLetter  {x0 : Int} {P : Int → Prop} {h : Hp} (r_x0 : R32 x0)   (H : F_X12_isLetter x0 P) : Con mX12_isLetter 2 0 0 [ii (x0)] h (QPI h P) := by
  refine con_of rfl (Nat.le_of_ble_eq_true rfl) (by decide) ?_
  show J mX12_isLetter 2 0 0 _ 0 [some (ii (x0))] [] h
  unfold F_X12_isLetter at H
  refine j_iload_n (dk dt_X12_isLetter 0 rfl) rfl ?_
  refine j_bipush (v := Int32.ofInt 65) (dk dt_X12_isLetter 1 rfl) (by decide) ?_
  refine j_bipush (v := Int32.ofInt 90) (dk dt_X12_isLetter 2 rfl) (by decide) ?_
  refine j_callS3 (dk dt_X12_isLetter 3 rfl) sl_X12_220 (T_X12_in r_x0 (by decide) (by decide) H) rfl (by decide) (Nat.zero_le _) (Nat.zero_le _) (Nat.le_of_ble_eq_true rfl) (fun v_5 h_5 P_5 => ?_)
  obtain ⟨x_5, rfl, r_5, rfl, H⟩ := P_5
  dsimp only [rs]
  obtain ⟨hz_, H⟩ := H
  exact j_ireturn (dk dt_X12_isLetter 4 rfl) rfl (nar_z hz_) ⟨_, rfl, r_5, rfl, H⟩
def L_X12_corner_66  (x2 : Int) (x3 : Int) (x4 : Int) (x5 : Int) (x6 : Int) (u : Mu) (P : (Int × Int × Int) ⊕ ((Int × Int × Int)) → Prop) : Prop :=
  (if 2 ≤ x5 then P (.inr (x2, x5, x6)) else F_X12_byteAt x2 u (fun x_74 => F_X12_isDigit x_74 (fun x_77 => (if x_77 = 0 then P (.inr (x2, x5, x6)) else F_X12_byteAt x2 u (fun x_90 => P (.inl (w32 (x2 + 1), w32 (x5 + 1), w32 ((w32 (w32 (10 * x6) + x_90)) - 48))))))))
theorem U_X12_corner_66  {x2 : Int} {x3 : Int} {x4 : Int} {x5 : Int} {x6 : Int} {u : Mu} {P : (Int × Int × Int) ⊕ ((Int × Int × Int)) → Prop} {h : Hp} {g : Nat → Nat} {post : Option Sv ⊕ String → Hp → Prop} (r_x2 : R32 x2) (r_x3 : R32 x3) (r_x4 : R32 x4) (r_x5 : R32 x5) (r_x6 : R32 x6) (m : Ms h g u)  (hl : ∀ (x2 : Int) (x5 : Int) (x6 : Int), P (.inl (x2, x5, x6)) → R32 x2 → R32 x5 → R32 x6 → J mX12_corner 3 0 0 post 66 [some (vr (some (g 0))), none, some (ii (x2)), some (ii (x3)), some (ii (x4)), some (ii (x5)), some (ii (x6))] [] h) (he0 : ∀ (x2 : Int) (x5 : Int) (x6 : Int), P (.inr (x2, x5, x6)) → R32 x2 → R32 x5 → R32 x6 → J mX12_corner 3 0 0 post 108 [some (vr (some (g 0))), none, some (ii (x2)), some (ii (x3)), some (ii (x4)), some (ii (x5)), some (ii (x6))] [] h) (H : L_X12_corner_66 x2 x3 x4 x5 x6 u P) : J mX12_corner 3 0 0 post 66 [some (vr (some (g 0))), none, some (ii (x2)), some (ii (x3)), some (ii (x4)), some (ii (x5)), some (ii (x6))] [] h := by
  unfold L_X12_corner_66 at H
  refine j_iload (dk dt_X12_corner 38 rfl) rfl ?_
  refine j_iconst (v := Int32.ofInt 2) (dk dt_X12_corner 39 rfl) (by decide) ?_
  refine jz_icmp_ge 108 (dk dt_X12_corner 40 rfl) (by decide) r_x5 (by decide) H (fun H => ?_) (fun H => ?_)
  · exact j_el (he0 _ _ _ H r_x2 r_x5 r_x6) (And.intro rfl (And.intro rfl (And.intro rfl (And.intro rfl (And.intro rfl (And.intro rfl trivial))))))
  · refine j_aload_n (dk dt_X12_corner 41 rfl) rfl ?_
    refine j_iload_n (dk dt_X12_corner 42 rfl) rfl ?_
    refine jz_callV1 (dk dt_X12_corner 43 rfl) vl_X12_270 rfl (T_X12_byteAt r_x2 m H) m.1.1 rfl (by decide) (Nat.zero_le _) (Nat.zero_le _) (Nat.le_of_ble_eq_true rfl) (fun v_74 h_74 P_74 => ?_)
    obtain ⟨x_74, rfl, r_74, rfl, H⟩ := P_74
    dsimp only [rs]
    refine j_callS1 (dk dt_X12_corner 44 rfl) sl_X12_283 (T_X12_isDigit r_74 H) rfl (by decide) (Nat.zero_le _) (Nat.zero_le _) (Nat.le_of_ble_eq_true rfl) (fun v_77 h_77 P_77 => ?_)
    obtain ⟨x_77, rfl, r_77, rfl, H⟩ := P_77
    dsimp only [rs]
    refine jz_if_eq 108 (dk dt_X12_corner 45 rfl) (by decide) r_77 H (fun H => ?_) (fun H => ?_)
    · exact j_el (he0 _ _ _ H r_x2 r_x5 r_x6) (And.intro rfl (And.intro rfl (And.intro rfl (And.intro rfl (And.intro rfl (And.intro rfl trivial))))))
    · refine j_bipush (v := Int32.ofInt 10) (dk dt_X12_corner 46 rfl) (by decide) ?_
      refine j_iload (dk dt_X12_corner 47 rfl) rfl ?_
      refine jz_imul (dk dt_X12_corner 48 rfl) ?_
      refine j_aload_n (dk dt_X12_corner 49 rfl) rfl ?_
      refine j_iload_n (dk dt_X12_corner 50 rfl) rfl ?_
      refine jz_callV1 (dk dt_X12_corner 51 rfl) vl_X12_270 rfl (T_X12_byteAt r_x2 m H) m.1.1 rfl (by decide) (Nat.zero_le _) (Nat.zero_le _) (Nat.le_of_ble_eq_true rfl) (fun v_90 h_90 P_90 => ?_)
      obtain ⟨x_90, rfl, r_90, rfl, H⟩ := P_90
      dsimp only [rs]
      refine jz_iadd (dk dt_X12_corner 52 rfl) ?_
      refine j_bipush (v := Int32.ofInt 48) (dk dt_X12_corner 53 rfl) (by decide) ?_
      refine jz_isub (dk dt_X12_corner 54 rfl) ?_
      refine j_istore (dk dt_X12_corner 55 rfl) (by decide) ?_
      refine jz_iinc (dk dt_X12_corner 56 rfl) rfl ?_
      refine jz_iinc (dk dt_X12_corner 57 rfl) rfl ?_
      refine j_goto 66 (dk dt_X12_corner 58 rfl) (by decide) ?_
      exact j_el (hl _ _ _ H (r32_w _) (r32_w _) (r32_w _)) (And.intro rfl (And.intro rfl (And.intro rfl (And.intro rfl (And.intro rfl (And.intro rfl trivial))))))
def F_X12_corner_135  (u : Mu) (P : Int → Mu → Prop) : Prop :=
  P 0 u
theorem T_X12_corner_135  {u : Mu} {P : Int → Mu → Prop} {h : Hp} {g : Nat → Nat}  (m : Ms h g u)   (H : F_X12_corner_135 u P) : J mX12_corner 3 0 0 (nx (QMI g P)) 135 [none, none, none, none, none, none, none] [] h := by
  unfold F_X12_corner_135 at H
  refine j_iconst (v := Int32.ofInt 0) (dk dt_X12_corner 71 rfl) (by decide) ?_
  exact j_ireturn (dk dt_X12_corner 72 rfl) rfl (nar_z (by decide)) ⟨_, _, rfl, (by decide), m, H⟩
def F_X12_corner_108  (x2 : Int) (x3 : Int) (x4 : Int) (x5 : Int) (x6 : Int) (u : Mu) (P : Int → Mu → Prop) : Prop :=
  (if x5 = 0 then F_X12_corner_135 u P else F_X12_byteAt x2 u (fun x_115 => F_X12_isDigit x_115 (fun x_118 => (if x_118 = 0 then F_X12_byteAt x2 u (fun x_126 => F_X12_isLetter x_126 (fun x_129 => (if x_129 = 0 then (∀ u_140, u_140 = uI u 0 52 x6 → (∀ u_149, u_149 = uI u_140 0 53 (w32 (x4 - 64)) → (∀ u_154, u_154 = uI u_149 0 54 x3 → (∀ u_159, u_159 = uI u_154 0 55 x2 → P 1 u_159)))) else F_X12_corner_135 u P))) else F_X12_corner_135 u P))))
theorem T_X12_corner_108  {x2 : Int} {x3 : Int} {x4 : Int} {x5 : Int} {x6 : Int} {u : Mu} {P : Int → Mu → Prop} {h : Hp} {g : Nat → Nat} (r_x2 : R32 x2) (r_x3 : R32 x3) (r_x4 : R32 x4) (r_x5 : R32 x5) (r_x6 : R32 x6) (m : Ms h g u)   (H : F_X12_corner_108 x2 x3 x4 x5 x6 u P) : J mX12_corner 3 0 0 (nx (QMI g P)) 108 [some (vr (some (g 0))), none, some (ii (x2)), some (ii (x3)), some (ii (x4)), some (ii (x5)), some (ii (x6))] [] h := by
  unfold F_X12_corner_108 at H
  refine j_iload (dk dt_X12_corner 59 rfl) rfl ?_
  refine jz_if_eq 135 (dk dt_X12_corner 60 rfl) (by decide) r_x5 H (fun H => ?_) (fun H => ?_)
  · exact j_el (T_X12_corner_135  m   H) trivial
  · refine j_aload_n (dk dt_X12_corner 61 rfl) rfl ?_
    refine j_iload_n (dk dt_X12_corner 62 rfl) rfl ?_
    refine jz_callV1 (dk dt_X12_corner 63 rfl) vl_X12_270 rfl (T_X12_byteAt r_x2 m H) m.1.1 rfl (by decide) (Nat.zero_le _) (Nat.zero_le _) (Nat.le_of_ble_eq_true rfl) (fun v_115 h_115 P_115 => ?_)
    obtain ⟨x_115, rfl, r_115, rfl, H⟩ := P_115
    dsimp only [rs]
    refine j_callS1 (dk dt_X12_corner 64 rfl) sl_X12_283 (T_X12_isDigit r_115 H) rfl (by decide) (Nat.zero_le _) (Nat.zero_le _) (Nat.le_of_ble_eq_true rfl) (fun v_118 h_118 P_118 => ?_)
    obtain ⟨x_118, rfl, r_118, rfl, H⟩ := P_118
    dsimp only [rs]
    refine jz_if_ne 135 (dk dt_X12_corner 65 rfl) (by decide) r_118 H (fun H => ?_) (fun H => ?_)
    · refine j_aload_n (dk dt_X12_corner 66 rfl) rfl ?_
      refine j_iload_n (dk dt_X12_corner 67 rfl) rfl ?_
      refine jz_callV1 (dk dt_X12_corner 68 rfl) vl_X12_270 rfl (T_X12_byteAt r_x2 m H) m.1.1 rfl (by decide) (Nat.zero_le _) (Nat.zero_le _) (Nat.le_of_ble_eq_true rfl) (fun v_126 h_126 P_126 => ?_)
      obtain ⟨x_126, rfl, r_126, rfl, H⟩ := P_126
      dsimp only [rs]
      refine j_callS1 (dk dt_X12_corner 69 rfl) sl_X12_347 (T_X12_isLetter r_126 H) rfl (by decide) (Nat.zero_le _) (Nat.zero_le _) (Nat.le_of_ble_eq_true rfl) (fun v_129 h_129 P_129 => ?_)
      obtain ⟨x_129, rfl, r_129, rfl, H⟩ := P_129
      dsimp only [rs]
      refine jz_if_eq 137 (dk dt_X12_corner 70 rfl) (by decide) r_129 H (fun H => ?_) (fun H => ?_)
      · refine j_aload_n (dk dt_X12_corner 73 rfl) rfl ?_
        refine j_iload (dk dt_X12_corner 74 rfl) rfl ?_
        refine jm_putI (kz := 52) (dk dt_X12_corner 75 rfl) fl_X12_350 rfl rfl rfl rfl m r_x6 (fun h_140 m_140 => ?_)
        replace H := H _ rfl
        refine j_aload_n (dk dt_X12_corner 76 rfl) rfl ?_
        refine j_iload (dk dt_X12_corner 77 rfl) rfl ?_
        refine j_bipush (v := Int32.ofInt 64) (dk dt_X12_corner 78 rfl) (by decide) ?_
        refine jz_isub (dk dt_X12_corner 79 rfl) ?_
        refine jm_putI (kz := 53) (dk dt_X12_corner 80 rfl) fl_X12_353 rfl rfl rfl rfl m_140 (r32_w _) (fun h_149 m_149 => ?_)
        replace H := H _ rfl
        refine j_aload_n (dk dt_X12_corner 81 rfl) rfl ?_
        refine j_iload_n (dk dt_X12_corner 82 rfl) rfl ?_
        refine jm_putI (kz := 54) (dk dt_X12_corner 83 rfl) fl_X12_356 rfl rfl rfl rfl m_149 r_x3 (fun h_154 m_154 => ?_)
        replace H := H _ rfl
        refine j_aload_n (dk dt_X12_corner 84 rfl) rfl ?_
        refine j_iload_n (dk dt_X12_corner 85 rfl) rfl ?_
        refine jm_putI (kz := 55) (dk dt_X12_corner 86 rfl) fl_X12_359 rfl rfl rfl rfl m_154 r_x2 (fun h_159 m_159 => ?_)
        replace H := H _ rfl
        refine j_iconst (v := Int32.ofInt 1) (dk dt_X12_corner 87 rfl) (by decide) ?_
        exact j_ireturn (dk dt_X12_corner 88 rfl) rfl (nar_z (by decide)) ⟨_, _, rfl, (by decide), m_159, H⟩
      · exact j_el (T_X12_corner_135  m   H) trivial
    · exact j_el (T_X12_corner_135  m   H) trivial
def F_X12_corner_66  (x2 : Int) (x3 : Int) (x4 : Int) (x5 : Int) (x6 : Int) (u : Mu) (P : Int → Mu → Prop) : Prop :=
  lp (S := Int × Int × Int) (E := (Int × Int × Int)) (fun q P_ => L_X12_corner_66 q.1 x3 x4 q.2.1 q.2.2 u P_) (x2, x5, x6) (fun e => match e with | (x2, x5, x6) => F_X12_corner_108 x2 x3 x4 x5 x6 u P)
theorem T_X12_corner_66  {x2 : Int} {x3 : Int} {x4 : Int} {x5 : Int} {x6 : Int} {u : Mu} {P : Int → Mu → Prop} {h : Hp} {g : Nat → Nat} (r_x2 : R32 x2) (r_x3 : R32 x3) (r_x4 : R32 x4) (r_x5 : R32 x5) (r_x6 : R32 x6) (m : Ms h g u)   (H : F_X12_corner_66 x2 x3 x4 x5 x6 u P) : J mX12_corner 3 0 0 (nx (QMI g P)) 66 [some (vr (some (g 0))), none, some (ii (x2)), some (ii (x3)), some (ii (x4)), some (ii (x5)), some (ii (x6))] [] h := by
  unfold F_X12_corner_66 at H
  refine lp_J (G := fun q => R32 (q.1) → R32 (q.2.1) → R32 (q.2.2) → J mX12_corner 3 0 0 (nx (QMI g P)) 66 [some (vr (some (g 0))), none, some (ii ((q.1))), some (ii (x3)), some (ii (x4)), some (ii ((q.2.1))), some (ii ((q.2.2)))] [] h) (fun q P_ hl_ he_ Hb => ?_) (x2, x5, x6) H r_x2 r_x5 r_x6
  obtain ⟨x2, x5, x6⟩ := q
  intro r_x2 r_x5 r_x6
  refine U_X12_corner_66 (P := P_) r_x2 r_x3 r_x4 r_x5 r_x6 m  (fun x2 x5 x6 Hp r_x2 r_x5 r_x6 => hl_ (x2, x5, x6) Hp r_x2 r_x5 r_x6) ?_ Hb
  · intro x2 x5 x6 Hp r_x2 r_x5 r_x6
    have H := he_ _ Hp
    exact j_el (T_X12_corner_108 r_x2 r_x3 r_x4 r_x5 r_x6 m   H) (And.intro rfl (And.intro rfl (And.intro rfl (And.intro rfl (And.intro rfl (And.intro rfl trivial))))))
def F_X12_corner_60  (x2 : Int) (x3 : Int) (x4 : Int) (u : Mu) (P : Int → Mu → Prop) : Prop :=
  F_X12_corner_66 x2 x3 x4 0 0 u P
theorem T_X12_corner_60  {x2 : Int} {x3 : Int} {x4 : Int} {u : Mu} {P : Int → Mu → Prop} {h : Hp} {g : Nat → Nat} (r_x2 : R32 x2) (r_x3 : R32 x3) (r_x4 : R32 x4) (m : Ms h g u)   (H : F_X12_corner_60 x2 x3 x4 u P) : J mX12_corner 3 0 0 (nx (QMI g P)) 60 [some (vr (some (g 0))), none, some (ii (x2)), some (ii (x3)), some (ii (x4)), none, none] [] h := by
  unfold F_X12_corner_60 at H
  refine j_iconst (v := Int32.ofInt 0) (dk dt_X12_corner 34 rfl) (by decide) ?_
  refine j_istore (dk dt_X12_corner 35 rfl) (by decide) ?_
  refine j_iconst (v := Int32.ofInt 0) (dk dt_X12_corner 36 rfl) (by decide) ?_
  refine j_istore (dk dt_X12_corner 37 rfl) (by decide) ?_
  exact j_el (T_X12_corner_66 r_x2 r_x3 r_x4 (by decide) (by decide) m   H) (And.intro rfl (And.intro rfl (And.intro rfl (And.intro rfl (And.intro rfl (And.intro rfl trivial))))))
def F_X12_corner_19  (x2 : Int) (x3 : Int) (u : Mu) (P : Int → Mu → Prop) : Prop :=
  F_X12_byteAt x2 u (fun x_21 => F_X12_in x_21 65 74 (fun x_32 => (if x_32 = 0 then P 0 u else F_X12_byteAt (w32 (x2 + 1)) u (fun x_45 => (if x_45 = 36 then F_X12_corner_60 (w32 (w32 (x2 + 1) + 1)) (bOr x3 2) x_21 u P else F_X12_corner_60 (w32 (x2 + 1)) x3 x_21 u P)))))
theorem T_X12_corner_19  {x2 : Int} {x3 : Int} {u : Mu} {P : Int → Mu → Prop} {h : Hp} {g : Nat → Nat} (r_x2 : R32 x2) (r_x3 : R32 x3) (m : Ms h g u)   (H : F_X12_corner_19 x2 x3 u P) : J mX12_corner 3 0 0 (nx (QMI g P)) 19 [some (vr (some (g 0))), none, some (ii (x2)), some (ii (x3)), none, none, none] [] h := by
  unfold F_X12_corner_19 at H
  refine j_aload_n (dk dt_X12_corner 12 rfl) rfl ?_
  refine j_iload_n (dk dt_X12_corner 13 rfl) rfl ?_
  refine jz_callV1 (dk dt_X12_corner 14 rfl) vl_X12_270 rfl (T_X12_byteAt r_x2 m H) m.1.1 rfl (by decide) (Nat.zero_le _) (Nat.zero_le _) (Nat.le_of_ble_eq_true rfl) (fun v_21 h_21 P_21 => ?_)
  obtain ⟨x_21, rfl, r_21, rfl, H⟩ := P_21
  dsimp only [rs]
  refine j_istore (dk dt_X12_corner 15 rfl) (by decide) ?_
  refine j_iload (dk dt_X12_corner 16 rfl) rfl ?_
  refine j_bipush (v := Int32.ofInt 65) (dk dt_X12_corner 17 rfl) (by decide) ?_
  refine j_bipush (v := Int32.ofInt 74) (dk dt_X12_corner 18 rfl) (by decide) ?_
  refine j_callS3 (dk dt_X12_corner 19 rfl) sl_X12_220 (T_X12_in r_21 (by decide) (by decide) H) rfl (by decide) (Nat.zero_le _) (Nat.zero_le _) (Nat.le_of_ble_eq_true rfl) (fun v_32 h_32 P_32 => ?_)
  obtain ⟨x_32, rfl, r_32, rfl, H⟩ := P_32
  dsimp only [rs]
  refine jz_if_ne 40 (dk dt_X12_corner 20 rfl) (by decide) r_32 H (fun H => ?_) (fun H => ?_)
  · refine j_iconst (v := Int32.ofInt 0) (dk dt_X12_corner 21 rfl) (by decide) ?_
    exact j_ireturn (dk dt_X12_corner 22 rfl) rfl (nar_z (by decide)) ⟨_, _, rfl, (by decide), m, H⟩
  · refine jz_iinc (dk dt_X12_corner 23 rfl) rfl ?_
    refine j_aload_n (dk dt_X12_corner 24 rfl) rfl ?_
    refine j_iload_n (dk dt_X12_corner 25 rfl) rfl ?_
    refine jz_callV1 (dk dt_X12_corner 26 rfl) vl_X12_270 rfl (T_X12_byteAt (r32_w _) m H) m.1.1 rfl (by decide) (Nat.zero_le _) (Nat.zero_le _) (Nat.le_of_ble_eq_true rfl) (fun v_45 h_45 P_45 => ?_)
    obtain ⟨x_45, rfl, r_45, rfl, H⟩ := P_45
    dsimp only [rs]
    refine j_bipush (v := Int32.ofInt 36) (dk dt_X12_corner 27 rfl) (by decide) ?_
    refine jz_icmp_ne 60 (dk dt_X12_corner 28 rfl) (by decide) r_45 (by decide) H (fun H => ?_) (fun H => ?_)
    · refine j_iload_n (dk dt_X12_corner 29 rfl) rfl ?_
      refine j_iconst (v := Int32.ofInt 2) (dk dt_X12_corner 30 rfl) (by decide) ?_
      refine jz_ior (dk dt_X12_corner 31 rfl) ?_
      refine j_istore_n (dk dt_X12_corner 32 rfl) (by decide) ?_
      refine jz_iinc (dk dt_X12_corner 33 rfl) rfl ?_
      exact j_el (T_X12_corner_60 (r32_w _) (r32_t _) r_21 m   H) (And.intro rfl (And.intro rfl (And.intro rfl (And.intro rfl trivial))))
    · exact j_el (T_X12_corner_60 (r32_w _) r_x3 r_21 m   H) (And.intro rfl (And.intro rfl (And.intro rfl (And.intro rfl trivial))))
def F_X12_corner  (x1 : Int) (u : Mu) (P : Int → Mu → Prop) : Prop :=
  F_X12_byteAt x1 u (fun x_6 => (if x_6 = 36 then F_X12_corner_19 (w32 (x1 + 1)) 1 u P else F_X12_corner_19 x1 0 u P))
theorem T_X12_corner  {x1 : Int} {u : Mu} {P : Int → Mu → Prop} {h : Hp} {g : Nat → Nat} (r_x1 : R32 x1) (m : Ms h g u)  (H : F_X12_corner x1 u P) : Con mX12_corner 3 0 0 [vr (some (g 0)), ii (x1)] h (QMI g P) := by
  refine con_of rfl (Nat.le_of_ble_eq_true rfl) (by decide) ?_
  show J mX12_corner 3 0 0 _ 0 [some (vr (some (g 0))), some (ii (x1)), none, none, none, none, none] [] h
  unfold F_X12_corner at H
  refine j_iload_n (dk dt_X12_corner 0 rfl) rfl ?_
  refine j_istore_n (dk dt_X12_corner 1 rfl) (by decide) ?_
  refine j_iconst (v := Int32.ofInt 0) (dk dt_X12_corner 2 rfl) (by decide) ?_
  refine j_istore_n (dk dt_X12_corner 3 rfl) (by decide) ?_
  refine j_aload_n (dk dt_X12_corner 4 rfl) rfl ?_
  refine j_iload_n (dk dt_X12_corner 5 rfl) rfl ?_
  refine jz_callV1 (dk dt_X12_corner 6 rfl) vl_X12_270 rfl (T_X12_byteAt r_x1 m H) m.1.1 rfl (by decide) (Nat.zero_le _) (Nat.zero_le _) (Nat.le_of_ble_eq_true rfl) (fun v_6 h_6 P_6 => ?_)
  obtain ⟨x_6, rfl, r_6, rfl, H⟩ := P_6
  dsimp only [rs]
  refine j_bipush (v := Int32.ofInt 36) (dk dt_X12_corner 7 rfl) (by decide) ?_
  refine jz_icmp_ne 19 (dk dt_X12_corner 8 rfl) (by decide) r_6 (by decide) H (fun H => ?_) (fun H => ?_)
  · refine j_iconst (v := Int32.ofInt 1) (dk dt_X12_corner 9 rfl) (by decide) ?_
    refine j_istore_n (dk dt_X12_corner 10 rfl) (by decide) ?_
    refine jz_iinc (dk dt_X12_corner 11 rfl) rfl ?_
    exact j_el (T_X12_corner_19 (r32_w _) (by decide) m   H) (And.intro rfl (And.intro rfl (And.intro rfl trivial)))
  · exact j_el (T_X12_corner_19 r_x1 (by decide) m   H) (And.intro rfl (And.intro rfl (And.intro rfl trivial)))
def F_X12_count_97  (s1 : Int) (u : Mu) (P : Mu → Prop) : Prop :=
  (Z1 s1 ∧ (∀ u_97, u_97 = uI u 0 80 s1 → (∀ u_107, u_107 = uI u_97 0 76 (w32 (mI u_97 0 76 + 1)) → P u_107)))
theorem T_X12_count_97  {s1 : Int} {u : Mu} {P : Mu → Prop} {h : Hp} {g : Nat → Nat} (r_s1 : R32 s1) (m : Ms h g u)   (H : F_X12_count_97 s1 u P) : J mX12_count 1 0 0 (nx (QMV g P)) 97 [some (vr (some (g 0))), none, none, none, none] [ii (s1), vr (some (g 0))] h := by
  unfold F_X12_count_97 at H
  obtain ⟨z1_97, H⟩ := H
  refine jm_putI (kz := 80) (dk dt_X12_count 54 rfl) fl_X12_674 rfl (nar_z z1_97) (fit_z z1_97) rfl m r_s1 (fun h_97 m_97 => ?_)
  replace H := H _ rfl
  refine j_aload_n (dk dt_X12_count 55 rfl) rfl ?_
  refine j_dup (dk dt_X12_count 56 rfl) rfl ?_
  refine jm_getI (kz := 76) (dk dt_X12_count 57 rfl) fl_X12_665 rfl rfl m_97 ?_
  refine j_iconst (v := Int32.ofInt 1) (dk dt_X12_count 58 rfl) (by decide) ?_
  refine jz_iadd (dk dt_X12_count 59 rfl) ?_
  refine jm_putI (kz := 76) (dk dt_X12_count 60 rfl) fl_X12_665 rfl rfl rfl rfl m_97 (r32_w _) (fun h_107 m_107 => ?_)
  replace H := H _ rfl
  exact j_return (dk dt_X12_count 61 rfl) rfl ⟨_, rfl, m_107, H⟩
def F_X12_count_92  (u : Mu) (P : Mu → Prop) : Prop :=
  F_X12_count_97 1 u P
theorem T_X12_count_92  {u : Mu} {P : Mu → Prop} {h : Hp} {g : Nat → Nat}  (m : Ms h g u)   (H : F_X12_count_92 u P) : J mX12_count 1 0 0 (nx (QMV g P)) 92 [some (vr (some (g 0))), none, none, none, none] [vr (some (g 0))] h := by
  unfold F_X12_count_92 at H
  refine j_iconst (v := Int32.ofInt 1) (dk dt_X12_count 51 rfl) (by decide) ?_
  refine j_goto 97 (dk dt_X12_count 52 rfl) (by decide) ?_
  exact j_el (T_X12_count_97 (by decide) m   H) (And.intro rfl trivial)
def F_X12_count_75  (x3 : Int) (s1 : Int) (u : Mu) (P : Mu → Prop) : Prop :=
  (Z1 s1 ∧ (∀ u_75, u_75 = uI u 0 79 s1 → (if mI u_75 0 80 = 0 then (if x3 = 1 then F_X12_count_92 u_75 P else F_X12_count_97 0 u_75 P) else F_X12_count_92 u_75 P)))
theorem T_X12_count_75  {x3 : Int} {s1 : Int} {u : Mu} {P : Mu → Prop} {h : Hp} {g : Nat → Nat} (r_x3 : R64 x3) (r_s1 : R32 s1) (m : Ms h g u)   (H : F_X12_count_75 x3 s1 u P) : J mX12_count 1 0 0 (nx (QMV g P)) 75 [some (vr (some (g 0))), none, none, some (ll (x3)), none] [ii (s1), vr (some (g 0))] h := by
  unfold F_X12_count_75 at H
  obtain ⟨z1_75, H⟩ := H
  refine jm_putI (kz := 79) (dk dt_X12_count 42 rfl) fl_X12_671 rfl (nar_z z1_75) (fit_z z1_75) rfl m r_s1 (fun h_75 m_75 => ?_)
  replace H := H _ rfl
  refine j_aload_n (dk dt_X12_count 43 rfl) rfl ?_
  refine j_aload_n (dk dt_X12_count 44 rfl) rfl ?_
  refine jm_getI (kz := 80) (dk dt_X12_count 45 rfl) fl_X12_674 rfl rfl m_75 ?_
  refine jz_if_ne 92 (dk dt_X12_count 46 rfl) (by decide) (m_75.2.1.1 _ _) H (fun H => ?_) (fun H => ?_)
  · refine j_lload_n (dk dt_X12_count 47 rfl) rfl ?_
    refine j_lconst (v := Int64.ofInt 1) (dk dt_X12_count 48 rfl) (by decide) ?_
    refine jz_lcmp (dk dt_X12_count 49 rfl) r_x3 (by decide) ?_
    refine jz_lif_ne 96 (dk dt_X12_count 50 rfl) (by decide) H (fun H => ?_) (fun H => ?_)
    · exact j_el (T_X12_count_92  m_75   H) (And.intro rfl trivial)
    · refine j_iconst (v := Int32.ofInt 0) (dk dt_X12_count 53 rfl) (by decide) ?_
      exact j_el (T_X12_count_97 (by decide) m_75   H) (And.intro rfl trivial)
  · exact j_el (T_X12_count_92  m_75   H) (And.intro rfl trivial)
def F_X12_count_74  (x3 : Int) (u : Mu) (P : Mu → Prop) : Prop :=
  F_X12_count_75 x3 0 u P
theorem T_X12_count_74  {x3 : Int} {u : Mu} {P : Mu → Prop} {h : Hp} {g : Nat → Nat} (r_x3 : R64 x3) (m : Ms h g u)   (H : F_X12_count_74 x3 u P) : J mX12_count 1 0 0 (nx (QMV g P)) 74 [some (vr (some (g 0))), none, none, some (ll (x3)), none] [vr (some (g 0))] h := by
  unfold F_X12_count_74 at H
  refine j_iconst (v := Int32.ofInt 0) (dk dt_X12_count 41 rfl) (by decide) ?_
  exact j_el (T_X12_count_75 r_x3 (by decide) m   H) (And.intro rfl (And.intro rfl trivial))
def F_X12_count_56  (x3 : Int) (u : Mu) (P : Mu → Prop) : Prop :=
  (if mI u 0 79 = 0 then F_X12_count_74 x3 u P else (if x3 = 1 then F_X12_count_75 x3 1 u P else F_X12_count_74 x3 u P))
theorem T_X12_count_56  {x3 : Int} {u : Mu} {P : Mu → Prop} {h : Hp} {g : Nat → Nat} (r_x3 : R64 x3) (m : Ms h g u)   (H : F_X12_count_56 x3 u P) : J mX12_count 1 0 0 (nx (QMV g P)) 56 [some (vr (some (g 0))), none, none, some (ll (x3)), none] [] h := by
  unfold F_X12_count_56 at H
  refine j_aload_n (dk dt_X12_count 31 rfl) rfl ?_
  refine j_aload_n (dk dt_X12_count 32 rfl) rfl ?_
  refine jm_getI (kz := 79) (dk dt_X12_count 33 rfl) fl_X12_671 rfl rfl m ?_
  refine jz_if_eq 74 (dk dt_X12_count 34 rfl) (by decide) (m.2.1.1 _ _) H (fun H => ?_) (fun H => ?_)
  · exact j_el (T_X12_count_74 r_x3 m   H) (And.intro rfl (And.intro rfl trivial))
  · refine j_lload_n (dk dt_X12_count 35 rfl) rfl ?_
    refine j_lconst (v := Int64.ofInt 1) (dk dt_X12_count 36 rfl) (by decide) ?_
    refine jz_lcmp (dk dt_X12_count 37 rfl) r_x3 (by decide) ?_
    refine jz_lif_ne 74 (dk dt_X12_count 38 rfl) (by decide) H (fun H => ?_) (fun H => ?_)
    · refine j_iconst (v := Int32.ofInt 1) (dk dt_X12_count 39 rfl) (by decide) ?_
      refine j_goto 75 (dk dt_X12_count 40 rfl) (by decide) ?_
      exact j_el (T_X12_count_75 r_x3 (by decide) m   H) (And.intro rfl (And.intro rfl trivial))
    · exact j_el (T_X12_count_74 r_x3 m   H) (And.intro rfl (And.intro rfl trivial))
def F_X12_count_51  (x3 : Int) (u : Mu) (P : Mu → Prop) : Prop :=
  (∀ u_53, u_53 = uG u 0 78 x3 → F_X12_count_56 x3 u_53 P)
theorem T_X12_count_51  {x3 : Int} {u : Mu} {P : Mu → Prop} {h : Hp} {g : Nat → Nat} (r_x3 : R64 x3) (m : Ms h g u)   (H : F_X12_count_51 x3 u P) : J mX12_count 1 0 0 (nx (QMV g P)) 51 [some (vr (some (g 0))), none, none, some (ll (x3)), none] [] h := by
  unfold F_X12_count_51 at H
  refine j_aload_n (dk dt_X12_count 28 rfl) rfl ?_
  refine j_lload_n (dk dt_X12_count 29 rfl) rfl ?_
  refine jm_putG (kz := 78) (dk dt_X12_count 30 rfl) fl_X12_668 rfl rfl rfl rfl m r_x3 (fun h_53 m_53 => ?_)
  replace H := H _ rfl
  exact j_el (T_X12_count_56 r_x3 m_53   H) (And.intro rfl (And.intro rfl trivial))
def F_X12_count  (x1 : Int) (x2 : Int) (u : Mu) (P : Mu → Prop) : Prop :=
  (0 ≤ x2 ∧ x2 < 200 ∧ (∀ u_14, u_14 = uG u 0 77 (w64 ((mG u 0 77) + (mG u 67 x2))) → (if mI u_14 0 76 = 0 then F_X12_count_51 (mG u 67 x2) u_14 P else (if x1 = 34 then (if mG u_14 0 78 ≤ mG u 67 x2 then F_X12_count_56 (mG u 67 x2) u_14 P else F_X12_count_51 (mG u 67 x2) u_14 P) else (if mG u 67 x2 ≤ mG u_14 0 78 then F_X12_count_56 (mG u 67 x2) u_14 P else F_X12_count_51 (mG u 67 x2) u_14 P)))))
theorem T_X12_count  {x1 : Int} {x2 : Int} {u : Mu} {P : Mu → Prop} {h : Hp} {g : Nat → Nat} (r_x1 : R32 x1) (r_x2 : R32 x2) (m : Ms h g u)  (H : F_X12_count x1 x2 u P) : Con mX12_count 1 0 0 [vr (some (g 0)), ii (x1), ii (x2)] h (QMV g P) := by
  refine con_of rfl (Nat.le_of_ble_eq_true rfl) (by decide) ?_
  show J mX12_count 1 0 0 _ 0 [some (vr (some (g 0))), some (ii (x1)), some (ii (x2)), none, none] [] h
  unfold F_X12_count at H
  refine j_aload_n (dk dt_X12_count 0 rfl) rfl ?_
  refine jm_getA (dk dt_X12_count 1 rfl) fl_X12_129 rfl (c := 15) rfl m ?_
  refine j_iload_n (dk dt_X12_count 2 rfl) rfl ?_
  obtain ⟨p_5, q_5, H⟩ := H
  refine jm_lald (dk dt_X12_count 3 rfl) rfl rfl m p_5 q_5 ?_
  refine j_lstore_n (dk dt_X12_count 4 rfl) (by decide) ?_
  refine j_aload_n (dk dt_X12_count 5 rfl) rfl ?_
  refine j_aload_n (dk dt_X12_count 6 rfl) rfl ?_
  refine jm_getG (kz := 77) (dk dt_X12_count 7 rfl) fl_X12_661 rfl rfl m ?_
  refine j_lload_n (dk dt_X12_count 8 rfl) rfl ?_
  refine jz_ladd (dk dt_X12_count 9 rfl) ?_
  refine jm_putG (kz := 77) (dk dt_X12_count 10 rfl) fl_X12_661 rfl rfl rfl rfl m (r64_w _) (fun h_14 m_14 => ?_)
  replace H := H _ rfl
  refine j_aload_n (dk dt_X12_count 11 rfl) rfl ?_
  refine jm_getI (kz := 76) (dk dt_X12_count 12 rfl) fl_X12_665 rfl rfl m_14 ?_
  refine jz_if_eq 51 (dk dt_X12_count 13 rfl) (by decide) (m_14.2.1.1 _ _) H (fun H => ?_) (fun H => ?_)
  · exact j_el (T_X12_count_51 (m.2.1.2.1 _ _) m_14   H) (And.intro rfl (And.intro rfl trivial))
  · refine j_iload_n (dk dt_X12_count 14 rfl) rfl ?_
    refine j_bipush (v := Int32.ofInt 34) (dk dt_X12_count 15 rfl) (by decide) ?_
    refine jz_icmp_ne 42 (dk dt_X12_count 16 rfl) (by decide) r_x1 (by decide) H (fun H => ?_) (fun H => ?_)
    · refine j_lload_n (dk dt_X12_count 17 rfl) rfl ?_
      refine j_aload_n (dk dt_X12_count 18 rfl) rfl ?_
      refine jm_getG (kz := 78) (dk dt_X12_count 19 rfl) fl_X12_668 rfl rfl m_14 ?_
      refine jz_lcmp (dk dt_X12_count 20 rfl) (m.2.1.2.1 _ _) (m_14.2.1.2.1 _ _) ?_
      refine jz_lif_ge 56 (dk dt_X12_count 21 rfl) (by decide) H (fun H => ?_) (fun H => ?_)
      · exact j_el (T_X12_count_56 (m.2.1.2.1 _ _) m_14   H) (And.intro rfl (And.intro rfl trivial))
      · refine j_goto 51 (dk dt_X12_count 22 rfl) (by decide) ?_
        exact j_el (T_X12_count_51 (m.2.1.2.1 _ _) m_14   H) (And.intro rfl (And.intro rfl trivial))
    · refine j_lload_n (dk dt_X12_count 23 rfl) rfl ?_
      refine j_aload_n (dk dt_X12_count 24 rfl) rfl ?_
      refine jm_getG (kz := 78) (dk dt_X12_count 25 rfl) fl_X12_668 rfl rfl m_14 ?_
      refine jz_lcmp (dk dt_X12_count 26 rfl) (m.2.1.2.1 _ _) (m_14.2.1.2.1 _ _) ?_
      refine jz_lif_le 56 (dk dt_X12_count 27 rfl) (by decide) H (fun H => ?_) (fun H => ?_)
      · exact j_el (T_X12_count_56 (m.2.1.2.1 _ _) m_14   H) (And.intro rfl (And.intro rfl trivial))
      · exact j_el (T_X12_count_51 (m.2.1.2.1 _ _) m_14   H) (And.intro rfl (And.intro rfl trivial))
def L_X12_text_18  (x1 : Int) (x2 : Nat) (x3 : Int) (x4 : Int) (x5 : Int) (u : Mu) (P : (Int × Mu) ⊕ ((Mu)) → Prop) : Prop :=
  (if x4 ≤ x5 then P (.inr u) else (mkl.getD x2 0 = 14 ∧ (0 ≤ w32 (x3 + x5) ∧ w32 (x3 + x5) < ((mnl.getD x2 0 : Nat) : Int) ∧ (0 ≤ w32 (w32 (24 * x1) + x5) ∧ w32 (w32 (24 * x1) + x5) < 4800 ∧ (∀ u_42, u_42 = uI u 69 (w32 (w32 (24 * x1) + x5)) (mI u x2 (w32 (x3 + x5))) → P (.inl (w32 (x5 + 1), u_42)))))))
theorem U_X12_text_18  {x1 : Int} {x2 : Nat} {x3 : Int} {x4 : Int} {x5 : Int} {u : Mu} {P : (Int × Mu) ⊕ ((Mu)) → Prop} {h : Hp} {g : Nat → Nat} {post : Option Sv ⊕ String → Hp → Prop} (r_x1 : R32 x1) (r_x3 : R32 x3) (r_x4 : R32 x4) (r_x5 : R32 x5) (m : Ms h g u)  (hl : ∀ (x5 : Int) (u : Mu) (h : Hp), P (.inl (x5, u)) → Ms h g u → R32 x5 → J mX12_text 1 0 0 post 18 [some (vr (some (g 0))), some (ii (x1)), some (vr (some (g (x2)))), some (ii (x3)), some (ii (x4)), some (ii (x5))] [] h) (he0 : ∀ (u : Mu) (h : Hp), P (.inr u) → Ms h g u → J mX12_text 1 0 0 post 49 [none, none, none, none, none, none] [] h) (H : L_X12_text_18 x1 x2 x3 x4 x5 u P) : J mX12_text 1 0 0 post 18 [some (vr (some (g 0))), some (ii (x1)), some (vr (some (g (x2)))), some (ii (x3)), some (ii (x4)), some (ii (x5))] [] h := by
  unfold L_X12_text_18 at H
  refine j_iload (dk dt_X12_text 12 rfl) rfl ?_
  refine j_iload (dk dt_X12_text 13 rfl) rfl ?_
  refine jz_icmp_ge 49 (dk dt_X12_text 14 rfl) (by decide) r_x5 r_x4 H (fun H => ?_) (fun H => ?_)
  · exact j_el (he0 _ _ H m) trivial
  · refine j_aload_n (dk dt_X12_text 15 rfl) rfl ?_
    refine jm_getA (dk dt_X12_text 16 rfl) fl_X12_135 rfl (c := 13) rfl m ?_
    refine j_bipush (v := Int32.ofInt 24) (dk dt_X12_text 17 rfl) (by decide) ?_
    refine j_iload_n (dk dt_X12_text 18 rfl) rfl ?_
    refine jz_imul (dk dt_X12_text 19 rfl) ?_
    refine j_iload (dk dt_X12_text 20 rfl) rfl ?_
    refine jz_iadd (dk dt_X12_text 21 rfl) ?_
    refine j_aload_n (dk dt_X12_text 22 rfl) rfl ?_
    refine j_iload_n (dk dt_X12_text 23 rfl) rfl ?_
    refine j_iload (dk dt_X12_text 24 rfl) rfl ?_
    refine jz_iadd (dk dt_X12_text 25 rfl) ?_
    obtain ⟨k_41, H⟩ := H
    obtain ⟨p_41, q_41, H⟩ := H
    refine jm_bald (dk dt_X12_text 26 rfl) k_41 rfl m p_41 q_41 ?_
    obtain ⟨p_42, q_42, H⟩ := H
    refine jm_bast (dk dt_X12_text 27 rfl) rfl rfl m p_42 q_42 (m.2.1.2.2.1 _ _ k_41) (fun h_42 m_42 => ?_)
    replace H := H _ rfl
    refine jz_iinc (dk dt_X12_text 28 rfl) rfl ?_
    refine j_goto 18 (dk dt_X12_text 29 rfl) (by decide) ?_
    exact j_el (hl _ _ _ H m_42 (r32_w _)) (And.intro rfl (And.intro rfl (And.intro rfl (And.intro rfl (And.intro rfl (And.intro rfl trivial))))))
def F_X12_text_18  (x1 : Int) (x2 : Nat) (x3 : Int) (x4 : Int) (x5 : Int) (u : Mu) (P : Mu → Prop) : Prop :=
  lp (S := Int × Mu) (E := (Mu)) (fun q P_ => L_X12_text_18 x1 x2 x3 x4 q.1 q.2 P_) (x5, u) (fun (u : Mu) => P u)
theorem T_X12_text_18  {x1 : Int} {x2 : Nat} {x3 : Int} {x4 : Int} {x5 : Int} {u : Mu} {P : Mu → Prop} {h : Hp} {g : Nat → Nat} (r_x1 : R32 x1) (r_x3 : R32 x3) (r_x4 : R32 x4) (r_x5 : R32 x5) (m : Ms h g u)   (H : F_X12_text_18 x1 x2 x3 x4 x5 u P) : J mX12_text 1 0 0 (nx (QMV g P)) 18 [some (vr (some (g 0))), some (ii (x1)), some (vr (some (g (x2)))), some (ii (x3)), some (ii (x4)), some (ii (x5))] [] h := by
  unfold F_X12_text_18 at H
  refine lp_J (G := fun q => ∀ h : Hp, Ms h g (q.2) → R32 (q.1) → J mX12_text 1 0 0 (nx (QMV g P)) 18 [some (vr (some (g 0))), some (ii (x1)), some (vr (some (g (x2)))), some (ii (x3)), some (ii (x4)), some (ii ((q.1)))] [] h) (fun q P_ hl_ he_ Hb => ?_) (x5, u) H _ m r_x5
  obtain ⟨x5, u⟩ := q
  intro h m r_x5
  refine U_X12_text_18 (P := P_) r_x1 r_x3 r_x4 r_x5 m  (fun x5 u h Hp m r_x5 => hl_ (x5, u) Hp h m r_x5) ?_ Hb
  · intro u h Hp m
    have H := he_ _ Hp
    exact j_return (dk dt_X12_text 30 rfl) rfl ⟨_, rfl, m, H⟩
def F_X12_text  (x1 : Int) (x2 : Nat) (x3 : Int) (x4 : Int) (u : Mu) (P : Mu → Prop) : Prop :=
  (0 ≤ x1 ∧ x1 < 200 ∧ (∀ u_6, u_6 = uI u 66 x1 2 → (0 ≤ x1 ∧ x1 < 200 ∧ (∀ u_14, u_14 = uI u_6 68 x1 x4 → F_X12_text_18 x1 x2 x3 x4 0 u_14 P))))
theorem T_X12_text  {x1 : Int} {x2 : Nat} {x3 : Int} {x4 : Int} {u : Mu} {P : Mu → Prop} {h : Hp} {g : Nat → Nat} (r_x1 : R32 x1) (r_x3 : R32 x3) (r_x4 : R32 x4) (m : Ms h g u)  (H : F_X12_text x1 x2 x3 x4 u P) : Con mX12_text 1 0 0 [vr (some (g 0)), ii (x1), vr (some (g (x2))), ii (x3), ii (x4)] h (QMV g P) := by
  refine con_of rfl (Nat.le_of_ble_eq_true rfl) (by decide) ?_
  show J mX12_text 1 0 0 _ 0 [some (vr (some (g 0))), some (ii (x1)), some (vr (some (g (x2)))), some (ii (x3)), some (ii (x4)), none] [] h
  unfold F_X12_text at H
  refine j_aload_n (dk dt_X12_text 0 rfl) rfl ?_
  refine jm_getA (dk dt_X12_text 1 rfl) fl_X12_126 rfl (c := 14) rfl m ?_
  refine j_iload_n (dk dt_X12_text 2 rfl) rfl ?_
  refine j_iconst (v := Int32.ofInt 2) (dk dt_X12_text 3 rfl) (by decide) ?_
  obtain ⟨p_6, q_6, H⟩ := H
  refine jm_iast (dk dt_X12_text 4 rfl) rfl rfl m p_6 q_6 (by decide) (fun h_6 m_6 => ?_)
  replace H := H _ rfl
  refine j_aload_n (dk dt_X12_text 5 rfl) rfl ?_
  refine jm_getA (dk dt_X12_text 6 rfl) fl_X12_132 rfl (c := 14) rfl m_6 ?_
  refine j_iload_n (dk dt_X12_text 7 rfl) rfl ?_
  refine j_iload (dk dt_X12_text 8 rfl) rfl ?_
  obtain ⟨p_14, q_14, H⟩ := H
  refine jm_iast (dk dt_X12_text 9 rfl) rfl rfl m_6 p_14 q_14 r_x4 (fun h_14 m_14 => ?_)
  replace H := H _ rfl
  refine j_iconst (v := Int32.ofInt 0) (dk dt_X12_text 10 rfl) (by decide) ?_
  refine j_istore (dk dt_X12_text 11 rfl) (by decide) ?_
  exact j_el (T_X12_text_18 r_x1 r_x3 r_x4 (by decide) m_14   H) (And.intro rfl (And.intro rfl (And.intro rfl (And.intro rfl (And.intro rfl (And.intro rfl trivial))))))
def F_X12_load_53  (u : Mu) (P : Mu → Prop) : Prop :=
  P u
theorem T_X12_load_53  {u : Mu} {P : Mu → Prop} {h : Hp} {g : Nat → Nat}  (m : Ms h g u)   (H : F_X12_load_53 u P) : J mX12_load 2 0 0 (nx (QMV g P)) 53 [none, none, none] [] h := by
  unfold F_X12_load_53 at H
  exact j_return (dk dt_X12_load 34 rfl) rfl ⟨_, rfl, m, H⟩
def F_X12_load  (x1 : Int) (x2 : Int) (u : Mu) (P : Mu → Prop) : Prop :=
  (0 ≤ x2 ∧ x2 < 13120 ∧ (0 ≤ x1 ∧ x1 < 200 ∧ (∀ u_11, u_11 = uI u 66 x1 (mI u 60 x2) → (0 ≤ x2 ∧ x2 < 13120 ∧ (0 ≤ x1 ∧ x1 < 200 ∧ (∀ u_23, u_23 = uG u_11 67 x1 (mG u_11 61 x2) → (if mI u_23 60 x2 = 2 then (0 ≤ x2 ∧ x2 < 13120 ∧ F_X12_text x1 63 (w32 (24 * x2)) (mI u_23 62 x2) u_23 (fun u_50 => F_X12_load_53 u_50 P)) else F_X12_load_53 u_23 P)))))))
theorem T_X12_load  {x1 : Int} {x2 : Int} {u : Mu} {P : Mu → Prop} {h : Hp} {g : Nat → Nat} (r_x1 : R32 x1) (r_x2 : R32 x2) (m : Ms h g u)  (H : F_X12_load x1 x2 u P) : Con mX12_load 2 0 0 [vr (some (g 0)), ii (x1), ii (x2)] h (QMV g P) := by
  refine con_of rfl (Nat.le_of_ble_eq_true rfl) (by decide) ?_
  show J mX12_load 2 0 0 _ 0 [some (vr (some (g 0))), some (ii (x1)), some (ii (x2))] [] h
  unfold F_X12_load at H
  refine j_aload_n (dk dt_X12_load 0 rfl) rfl ?_
  refine jm_getA (dk dt_X12_load 1 rfl) fl_X12_126 rfl (c := 14) rfl m ?_
  refine j_iload_n (dk dt_X12_load 2 rfl) rfl ?_
  refine j_aload_n (dk dt_X12_load 3 rfl) rfl ?_
  refine jm_getA (dk dt_X12_load 4 rfl) fl_X12_109 rfl (c := 14) rfl m ?_
  refine j_iload_n (dk dt_X12_load 5 rfl) rfl ?_
  obtain ⟨p_10, q_10, H⟩ := H
  refine jm_iald (dk dt_X12_load 6 rfl) rfl rfl m p_10 q_10 ?_
  obtain ⟨p_11, q_11, H⟩ := H
  refine jm_iast (dk dt_X12_load 7 rfl) rfl rfl m p_11 q_11 (m.2.1.1 _ _) (fun h_11 m_11 => ?_)
  replace H := H _ rfl
  refine j_aload_n (dk dt_X12_load 8 rfl) rfl ?_
  refine jm_getA (dk dt_X12_load 9 rfl) fl_X12_129 rfl (c := 15) rfl m_11 ?_
  refine j_iload_n (dk dt_X12_load 10 rfl) rfl ?_
  refine j_aload_n (dk dt_X12_load 11 rfl) rfl ?_
  refine jm_getA (dk dt_X12_load 12 rfl) fl_X12_112 rfl (c := 15) rfl m_11 ?_
  refine j_iload_n (dk dt_X12_load 13 rfl) rfl ?_
  obtain ⟨p_22, q_22, H⟩ := H
  refine jm_lald (dk dt_X12_load 14 rfl) rfl rfl m_11 p_22 q_22 ?_
  obtain ⟨p_23, q_23, H⟩ := H
  refine jm_last (dk dt_X12_load 15 rfl) rfl rfl m_11 p_23 q_23 (m_11.2.1.2.1 _ _) (fun h_23 m_23 => ?_)
  replace H := H _ rfl
  refine j_aload_n (dk dt_X12_load 16 rfl) rfl ?_
  refine jm_getA (dk dt_X12_load 17 rfl) fl_X12_109 rfl (c := 14) rfl m_23 ?_
  refine j_iload_n (dk dt_X12_load 18 rfl) rfl ?_
  refine jm_iald (dk dt_X12_load 19 rfl) rfl rfl m_23 p_10 q_10 ?_
  refine j_iconst (v := Int32.ofInt 2) (dk dt_X12_load 20 rfl) (by decide) ?_
  refine jz_icmp_ne 53 (dk dt_X12_load 21 rfl) (by decide) (m_23.2.1.1 _ _) (by decide) H (fun H => ?_) (fun H => ?_)
  · refine j_aload_n (dk dt_X12_load 22 rfl) rfl ?_
    refine j_iload_n (dk dt_X12_load 23 rfl) rfl ?_
    refine j_aload_n (dk dt_X12_load 24 rfl) rfl ?_
    refine jm_getA (dk dt_X12_load 25 rfl) fl_X12_119 rfl (c := 13) rfl m_23 ?_
    refine j_bipush (v := Int32.ofInt 24) (dk dt_X12_load 26 rfl) (by decide) ?_
    refine j_iload_n (dk dt_X12_load 27 rfl) rfl ?_
    refine jz_imul (dk dt_X12_load 28 rfl) ?_
    refine j_aload_n (dk dt_X12_load 29 rfl) rfl ?_
    refine jm_getA (dk dt_X12_load 30 rfl) fl_X12_115 rfl (c := 14) rfl m_23 ?_
    refine j_iload_n (dk dt_X12_load 31 rfl) rfl ?_
    obtain ⟨p_49, q_49, H⟩ := H
    refine jm_iald (dk dt_X12_load 32 rfl) rfl rfl m_23 p_49 q_49 ?_
    refine jz_callV4 (dk dt_X12_load 33 rfl) vl_X12_533 rfl (T_X12_text r_x1 (r32_w _) (m_23.2.1.1 _ _) m_23 H) m_23.1.1 rfl (by decide) (Nat.zero_le _) (Nat.zero_le _) (Nat.le_of_ble_eq_true rfl) (fun v_50 h_50 P_50 => ?_)
    obtain ⟨u_50, rfl, m_50, H⟩ := P_50
    dsimp only [rs]
    exact j_el (T_X12_load_53  m_50   H) trivial
  · exact j_el (T_X12_load_53  m_23   H) trivial
def F_X12_wantsTruths_17  (s0 : Int) (P : Int → Prop) : Prop :=
  (Z1 s0 ∧ P s0)
theorem T_X12_wantsTruths_17  {s0 : Int} {P : Int → Prop} {h : Hp} (r_s0 : R32 s0)    (H : F_X12_wantsTruths_17 s0 P) : J mX12_wantsTruths 1 0 0 (nx (QPI h P)) 17 [none] [ii (s0)] h := by
  unfold F_X12_wantsTruths_17 at H
  obtain ⟨hz_, H⟩ := H
  exact j_ireturn (dk dt_X12_wantsTruths 9 rfl) rfl (nar_z hz_) ⟨_, rfl, r_s0, rfl, H⟩
def F_X12_wantsTruths_12  (P : Int → Prop) : Prop :=
  F_X12_wantsTruths_17 1 P
theorem T_X12_wantsTruths_12  {P : Int → Prop} {h : Hp}     (H : F_X12_wantsTruths_12 P) : J mX12_wantsTruths 1 0 0 (nx (QPI h P)) 12 [none] [] h := by
  unfold F_X12_wantsTruths_12 at H
  refine j_iconst (v := Int32.ofInt 1) (dk dt_X12_wantsTruths 6 rfl) (by decide) ?_
  refine j_goto 17 (dk dt_X12_wantsTruths 7 rfl) (by decide) ?_
  exact j_el (T_X12_wantsTruths_17 (by decide)    H) trivial
def F_X12_wantsTruths  (x0 : Int) (P : Int → Prop) : Prop :=
  (if x0 = 31 then F_X12_wantsTruths_12  P else (if x0 = 32 then F_X12_wantsTruths_12  P else F_X12_wantsTruths_17 0 P))
theorem T_X12_wantsTruths  {x0 : Int} {P : Int → Prop} {h : Hp} (r_x0 : R32 x0)   (H : F_X12_wantsTruths x0 P) : Con mX12_wantsTruths 1 0 0 [ii (x0)] h (QPI h P) := by
  refine con_of rfl (Nat.le_of_ble_eq_true rfl) (by decide) ?_
  show J mX12_wantsTruths 1 0 0 _ 0 [some (ii (x0))] [] h
  unfold F_X12_wantsTruths at H
  refine j_iload_n (dk dt_X12_wantsTruths 0 rfl) rfl ?_
  refine j_bipush (v := Int32.ofInt 31) (dk dt_X12_wantsTruths 1 rfl) (by decide) ?_
  refine jz_icmp_eq 12 (dk dt_X12_wantsTruths 2 rfl) (by decide) r_x0 (by decide) H (fun H => ?_) (fun H => ?_)
  · exact j_el (T_X12_wantsTruths_12     H) trivial
  · refine j_iload_n (dk dt_X12_wantsTruths 3 rfl) rfl ?_
    refine j_bipush (v := Int32.ofInt 32) (dk dt_X12_wantsTruths 4 rfl) (by decide) ?_
    refine jz_icmp_ne 16 (dk dt_X12_wantsTruths 5 rfl) (by decide) r_x0 (by decide) H (fun H => ?_) (fun H => ?_)
    · exact j_el (T_X12_wantsTruths_12     H) trivial
    · refine j_iconst (v := Int32.ofInt 0) (dk dt_X12_wantsTruths 8 rfl) (by decide) ?_
      exact j_el (T_X12_wantsTruths_17 (by decide)    H) trivial
def F_X12_countArea_65  (x1 : Int) (x2 : Int) (x3 : Int) (u : Mu) (P : (Int × Mu) ⊕ ((Mu) ⊕ (Mu)) → Prop) : Prop :=
  P (.inl (w32 (x3 + 1), u))
theorem T_X12_countArea_65  {x1 : Int} {x2 : Int} {x3 : Int} {u : Mu} {P : (Int × Mu) ⊕ ((Mu) ⊕ (Mu)) → Prop} {h : Hp} {g : Nat → Nat} {post : Option Sv ⊕ String → Hp → Prop} (r_x1 : R32 x1) (r_x2 : R32 x2) (r_x3 : R32 x3) (m : Ms h g u)  (hl : ∀ (x3 : Int) (u : Mu) (h : Hp), P (.inl (x3, u)) → Ms h g u → R32 x3 → J mX12_countArea 3 0 0 post 2 [some (vr (some (g 0))), some (ii (x1)), some (ii (x2)), some (ii (x3))] [] h) (he0 : ∀ (u : Mu) (h : Hp), P (.inr (.inl u)) → Ms h g u → J mX12_countArea 3 0 0 post 71 [none, none, none, none] [] h) (he1 : ∀ (u : Mu) (h : Hp), P (.inr (.inr u)) → Ms h g u → J mX12_countArea 3 0 0 post 36 [none, none, none, none] [] h) (H : F_X12_countArea_65 x1 x2 x3 u P) : J mX12_countArea 3 0 0 (post) 65 [some (vr (some (g 0))), some (ii (x1)), some (ii (x2)), some (ii (x3))] [] h := by
  unfold F_X12_countArea_65 at H
  refine jz_iinc (dk dt_X12_countArea 38 rfl) rfl ?_
  refine j_goto 2 (dk dt_X12_countArea 39 rfl) (by decide) ?_
  exact j_el (hl _ _ _ H m (r32_w _)) (And.intro rfl (And.intro rfl (And.intro rfl (And.intro rfl trivial))))
def F_X12_countArea_56  (x1 : Int) (x2 : Int) (x3 : Int) (s0 : Int) (s1 : Int) (u : Mu) (P : (Int × Mu) ⊕ ((Mu) ⊕ (Mu)) → Prop) : Prop :=
  (if s0 = s1 then F_X12_count x1 x2 u (fun u_62 => F_X12_countArea_65 x1 x2 x3 u_62 P) else F_X12_countArea_65 x1 x2 x3 u P)
theorem T_X12_countArea_56  {x1 : Int} {x2 : Int} {x3 : Int} {s0 : Int} {s1 : Int} {u : Mu} {P : (Int × Mu) ⊕ ((Mu) ⊕ (Mu)) → Prop} {h : Hp} {g : Nat → Nat} {post : Option Sv ⊕ String → Hp → Prop} (r_x1 : R32 x1) (r_x2 : R32 x2) (r_x3 : R32 x3) (r_s0 : R32 s0) (r_s1 : R32 s1) (m : Ms h g u)  (hl : ∀ (x3 : Int) (u : Mu) (h : Hp), P (.inl (x3, u)) → Ms h g u → R32 x3 → J mX12_countArea 3 0 0 post 2 [some (vr (some (g 0))), some (ii (x1)), some (ii (x2)), some (ii (x3))] [] h) (he0 : ∀ (u : Mu) (h : Hp), P (.inr (.inl u)) → Ms h g u → J mX12_countArea 3 0 0 post 71 [none, none, none, none] [] h) (he1 : ∀ (u : Mu) (h : Hp), P (.inr (.inr u)) → Ms h g u → J mX12_countArea 3 0 0 post 36 [none, none, none, none] [] h) (H : F_X12_countArea_56 x1 x2 x3 s0 s1 u P) : J mX12_countArea 3 0 0 (post) 56 [some (vr (some (g 0))), some (ii (x1)), some (ii (x2)), some (ii (x3))] [ii (s1), ii (s0)] h := by
  unfold F_X12_countArea_56 at H
  refine jz_icmp_ne 65 (dk dt_X12_countArea 33 rfl) (by decide) r_s0 r_s1 H (fun H => ?_) (fun H => ?_)
  · refine j_aload_n (dk dt_X12_countArea 34 rfl) rfl ?_
    refine j_iload_n (dk dt_X12_countArea 35 rfl) rfl ?_
    refine j_iload_n (dk dt_X12_countArea 36 rfl) rfl ?_
    refine jz_callV2 (dk dt_X12_countArea 37 rfl) vl_X12_680 rfl (T_X12_count r_x1 r_x2 m H) m.1.1 rfl (by decide) (Nat.zero_le _) (Nat.zero_le _) (Nat.le_of_ble_eq_true rfl) (fun v_62 h_62 P_62 => ?_)
    obtain ⟨u_62, rfl, m_62, H⟩ := P_62
    dsimp only [rs]
    exact j_el (T_X12_countArea_65 r_x1 r_x2 r_x3 m_62  hl he0 he1 H) (And.intro rfl (And.intro rfl (And.intro rfl (And.intro rfl trivial))))
  · exact j_el (T_X12_countArea_65 r_x1 r_x2 r_x3 m  hl he0 he1 H) (And.intro rfl (And.intro rfl (And.intro rfl (And.intro rfl trivial))))
def F_X12_countArea_38  (x1 : Int) (x2 : Int) (x3 : Int) (u : Mu) (P : (Int × Mu) ⊕ ((Mu) ⊕ (Mu)) → Prop) : Prop :=
  (0 ≤ x2 ∧ x2 < 200 ∧ F_X12_wantsTruths x1 (fun x_45 => (if x_45 = 0 then F_X12_countArea_56 x1 x2 x3 (mI u 66 x2) 1 u P else F_X12_countArea_56 x1 x2 x3 (mI u 66 x2) 3 u P)))
theorem T_X12_countArea_38  {x1 : Int} {x2 : Int} {x3 : Int} {u : Mu} {P : (Int × Mu) ⊕ ((Mu) ⊕ (Mu)) → Prop} {h : Hp} {g : Nat → Nat} {post : Option Sv ⊕ String → Hp → Prop} (r_x1 : R32 x1) (r_x2 : R32 x2) (r_x3 : R32 x3) (m : Ms h g u)  (hl : ∀ (x3 : Int) (u : Mu) (h : Hp), P (.inl (x3, u)) → Ms h g u → R32 x3 → J mX12_countArea 3 0 0 post 2 [some (vr (some (g 0))), some (ii (x1)), some (ii (x2)), some (ii (x3))] [] h) (he0 : ∀ (u : Mu) (h : Hp), P (.inr (.inl u)) → Ms h g u → J mX12_countArea 3 0 0 post 71 [none, none, none, none] [] h) (he1 : ∀ (u : Mu) (h : Hp), P (.inr (.inr u)) → Ms h g u → J mX12_countArea 3 0 0 post 36 [none, none, none, none] [] h) (H : F_X12_countArea_38 x1 x2 x3 u P) : J mX12_countArea 3 0 0 (post) 38 [some (vr (some (g 0))), some (ii (x1)), some (ii (x2)), some (ii (x3))] [] h := by
  unfold F_X12_countArea_38 at H
  refine j_aload_n (dk dt_X12_countArea 23 rfl) rfl ?_
  refine jm_getA (dk dt_X12_countArea 24 rfl) fl_X12_126 rfl (c := 14) rfl m ?_
  refine j_iload_n (dk dt_X12_countArea 25 rfl) rfl ?_
  obtain ⟨p_43, q_43, H⟩ := H
  refine jm_iald (dk dt_X12_countArea 26 rfl) rfl rfl m p_43 q_43 ?_
  refine j_iload_n (dk dt_X12_countArea 27 rfl) rfl ?_
  refine j_callS1 (dk dt_X12_countArea 28 rfl) sl_X12_677 (T_X12_wantsTruths r_x1 H) rfl (by decide) (Nat.zero_le _) (Nat.zero_le _) (Nat.le_of_ble_eq_true rfl) (fun v_45 h_45 P_45 => ?_)
  obtain ⟨x_45, rfl, r_45, rfl, H⟩ := P_45
  dsimp only [rs]
  refine jz_if_eq 55 (dk dt_X12_countArea 29 rfl) (by decide) r_45 H (fun H => ?_) (fun H => ?_)
  · refine j_iconst (v := Int32.ofInt 1) (dk dt_X12_countArea 32 rfl) (by decide) ?_
    exact j_el (T_X12_countArea_56 r_x1 r_x2 r_x3 (m.2.1.1 _ _) (by decide) m  hl he0 he1 H) (And.intro rfl (And.intro rfl (And.intro rfl (And.intro rfl trivial))))
  · refine j_iconst (v := Int32.ofInt 3) (dk dt_X12_countArea 30 rfl) (by decide) ?_
    refine j_goto 56 (dk dt_X12_countArea 31 rfl) (by decide) ?_
    exact j_el (T_X12_countArea_56 r_x1 r_x2 r_x3 (m.2.1.1 _ _) (by decide) m  hl he0 he1 H) (And.intro rfl (And.intro rfl (And.intro rfl (And.intro rfl trivial))))
def L_X12_countArea_2  (x1 : Int) (x2 : Int) (x3 : Int) (u : Mu) (P : (Int × Mu) ⊕ ((Mu) ⊕ (Mu)) → Prop) : Prop :=
  F_X12_areaSize u (fun x_4 => (if x_4 ≤ x3 then P (.inr (.inl u)) else F_X12_areaCell x3 u (fun x_14 => F_X12_load x2 x_14 u (fun u_17 => (0 ≤ x2 ∧ x2 < 200 ∧ (if mI u_17 66 x2 = 4 then (if x1 = 36 then F_X12_countArea_38 x1 x2 x3 u_17 P else P (.inr (.inr u_17))) else F_X12_countArea_38 x1 x2 x3 u_17 P))))))
theorem U_X12_countArea_2  {x1 : Int} {x2 : Int} {x3 : Int} {u : Mu} {P : (Int × Mu) ⊕ ((Mu) ⊕ (Mu)) → Prop} {h : Hp} {g : Nat → Nat} {post : Option Sv ⊕ String → Hp → Prop} (r_x1 : R32 x1) (r_x2 : R32 x2) (r_x3 : R32 x3) (m : Ms h g u)  (hl : ∀ (x3 : Int) (u : Mu) (h : Hp), P (.inl (x3, u)) → Ms h g u → R32 x3 → J mX12_countArea 3 0 0 post 2 [some (vr (some (g 0))), some (ii (x1)), some (ii (x2)), some (ii (x3))] [] h) (he0 : ∀ (u : Mu) (h : Hp), P (.inr (.inl u)) → Ms h g u → J mX12_countArea 3 0 0 post 71 [none, none, none, none] [] h) (he1 : ∀ (u : Mu) (h : Hp), P (.inr (.inr u)) → Ms h g u → J mX12_countArea 3 0 0 post 36 [none, none, none, none] [] h) (H : L_X12_countArea_2 x1 x2 x3 u P) : J mX12_countArea 3 0 0 post 2 [some (vr (some (g 0))), some (ii (x1)), some (ii (x2)), some (ii (x3))] [] h := by
  unfold L_X12_countArea_2 at H
  refine j_iload_n (dk dt_X12_countArea 2 rfl) rfl ?_
  refine j_aload_n (dk dt_X12_countArea 3 rfl) rfl ?_
  refine jz_callV0 (dk dt_X12_countArea 4 rfl) vl_X12_652 rfl (T_X12_areaSize m H) m.1.1 rfl (by decide) (Nat.zero_le _) (Nat.zero_le _) (Nat.le_of_ble_eq_true rfl) (fun v_4 h_4 P_4 => ?_)
  obtain ⟨x_4, rfl, r_4, rfl, H⟩ := P_4
  dsimp only [rs]
  refine jz_icmp_ge 71 (dk dt_X12_countArea 5 rfl) (by decide) r_x3 r_4 H (fun H => ?_) (fun H => ?_)
  · exact j_el (he0 _ _ H m) trivial
  · refine j_aload_n (dk dt_X12_countArea 6 rfl) rfl ?_
    refine j_iload_n (dk dt_X12_countArea 7 rfl) rfl ?_
    refine j_aload_n (dk dt_X12_countArea 8 rfl) rfl ?_
    refine j_iload_n (dk dt_X12_countArea 9 rfl) rfl ?_
    refine jz_callV1 (dk dt_X12_countArea 10 rfl) vl_X12_655 rfl (T_X12_areaCell r_x3 m H) m.1.1 rfl (by decide) (Nat.zero_le _) (Nat.zero_le _) (Nat.le_of_ble_eq_true rfl) (fun v_14 h_14 P_14 => ?_)
    obtain ⟨x_14, rfl, r_14, rfl, H⟩ := P_14
    dsimp only [rs]
    refine jz_callV2 (dk dt_X12_countArea 11 rfl) vl_X12_585 rfl (T_X12_load r_x2 r_14 m H) m.1.1 rfl (by decide) (Nat.zero_le _) (Nat.zero_le _) (Nat.le_of_ble_eq_true rfl) (fun v_17 h_17 P_17 => ?_)
    obtain ⟨u_17, rfl, m_17, H⟩ := P_17
    dsimp only [rs]
    refine j_aload_n (dk dt_X12_countArea 12 rfl) rfl ?_
    refine jm_getA (dk dt_X12_countArea 13 rfl) fl_X12_126 rfl (c := 14) rfl m_17 ?_
    refine j_iload_n (dk dt_X12_countArea 14 rfl) rfl ?_
    obtain ⟨p_25, q_25, H⟩ := H
    refine jm_iald (dk dt_X12_countArea 15 rfl) rfl rfl m_17 p_25 q_25 ?_
    refine j_iconst (v := Int32.ofInt 4) (dk dt_X12_countArea 16 rfl) (by decide) ?_
    refine jz_icmp_ne 38 (dk dt_X12_countArea 17 rfl) (by decide) (m_17.2.1.1 _ _) (by decide) H (fun H => ?_) (fun H => ?_)
    · refine j_iload_n (dk dt_X12_countArea 18 rfl) rfl ?_
      refine j_bipush (v := Int32.ofInt 36) (dk dt_X12_countArea 19 rfl) (by decide) ?_
      refine jz_icmp_eq 38 (dk dt_X12_countArea 20 rfl) (by decide) r_x1 (by decide) H (fun H => ?_) (fun H => ?_)
      · exact j_el (T_X12_countArea_38 r_x1 r_x2 r_x3 m_17  hl he0 he1 H) (And.intro rfl (And.intro rfl (And.intro rfl (And.intro rfl trivial))))
      · exact j_el (he1 _ _ H m_17) trivial
    · exact j_el (T_X12_countArea_38 r_x1 r_x2 r_x3 m_17  hl he0 he1 H) (And.intro rfl (And.intro rfl (And.intro rfl (And.intro rfl trivial))))
def F_X12_countArea_2  (x1 : Int) (x2 : Int) (x3 : Int) (u : Mu) (P : Int → Mu → Prop) : Prop :=
  lp (S := Int × Mu) (E := (Mu) ⊕ (Mu)) (fun q P_ => L_X12_countArea_2 x1 x2 q.1 q.2 P_) (x3, u) (fun e => match e with | (.inl u) => P 1 u | (.inr u) => P 0 u)
theorem T_X12_countArea_2  {x1 : Int} {x2 : Int} {x3 : Int} {u : Mu} {P : Int → Mu → Prop} {h : Hp} {g : Nat → Nat} (r_x1 : R32 x1) (r_x2 : R32 x2) (r_x3 : R32 x3) (m : Ms h g u)   (H : F_X12_countArea_2 x1 x2 x3 u P) : J mX12_countArea 3 0 0 (nx (QMI g P)) 2 [some (vr (some (g 0))), some (ii (x1)), some (ii (x2)), some (ii (x3))] [] h := by
  unfold F_X12_countArea_2 at H
  refine lp_J (G := fun q => ∀ h : Hp, Ms h g (q.2) → R32 (q.1) → J mX12_countArea 3 0 0 (nx (QMI g P)) 2 [some (vr (some (g 0))), some (ii (x1)), some (ii (x2)), some (ii ((q.1)))] [] h) (fun q P_ hl_ he_ Hb => ?_) (x3, u) H _ m r_x3
  obtain ⟨x3, u⟩ := q
  intro h m r_x3
  refine U_X12_countArea_2 (P := P_) r_x1 r_x2 r_x3 m  (fun x3 u h Hp m r_x3 => hl_ (x3, u) Hp h m r_x3) ?_ ?_ Hb
  · intro u h Hp m
    have H := he_ _ Hp
    refine j_iconst (v := Int32.ofInt 1) (dk dt_X12_countArea 40 rfl) (by decide) ?_
    exact j_ireturn (dk dt_X12_countArea 41 rfl) rfl (nar_z (by decide)) ⟨_, _, rfl, (by decide), m, H⟩
  · intro u h Hp m
    have H := he_ _ Hp
    refine j_iconst (v := Int32.ofInt 0) (dk dt_X12_countArea 21 rfl) (by decide) ?_
    exact j_ireturn (dk dt_X12_countArea 22 rfl) rfl (nar_z (by decide)) ⟨_, _, rfl, (by decide), m, H⟩
def F_X12_countArea  (x1 : Int) (x2 : Int) (u : Mu) (P : Int → Mu → Prop) : Prop :=
  F_X12_countArea_2 x1 x2 0 u P
theorem T_X12_countArea  {x1 : Int} {x2 : Int} {u : Mu} {P : Int → Mu → Prop} {h : Hp} {g : Nat → Nat} (r_x1 : R32 x1) (r_x2 : R32 x2) (m : Ms h g u)  (H : F_X12_countArea x1 x2 u P) : Con mX12_countArea 3 0 0 [vr (some (g 0)), ii (x1), ii (x2)] h (QMI g P) := by
  refine con_of rfl (Nat.le_of_ble_eq_true rfl) (by decide) ?_
  show J mX12_countArea 3 0 0 _ 0 [some (vr (some (g 0))), some (ii (x1)), some (ii (x2)), none] [] h
  unfold F_X12_countArea at H
  refine j_iconst (v := Int32.ofInt 0) (dk dt_X12_countArea 0 rfl) (by decide) ?_
  refine j_istore_n (dk dt_X12_countArea 1 rfl) (by decide) ?_
  exact j_el (T_X12_countArea_2 r_x1 r_x2 (by decide) m   H) (And.intro rfl (And.intro rfl (And.intro rfl (And.intro rfl trivial))))
def F_X12_spotCell_63  (s0 : Int) (u : Mu) (P : Int → Prop) : Prop :=
  P s0
theorem T_X12_spotCell_63  {s0 : Int} {u : Mu} {P : Int → Prop} {h : Hp} {g : Nat → Nat} (r_s0 : R32 s0) (m : Ms h g u)   (H : F_X12_spotCell_63 s0 u P) : J mX12_spotCell 3 0 0 (nx (QPI h P)) 63 [none, none, none, none, none, none] [ii (s0)] h := by
  unfold F_X12_spotCell_63 at H
  exact j_ireturn (dk dt_X12_spotCell 38 rfl) rfl rfl ⟨_, rfl, r_s0, rfl, H⟩
def F_X12_spotCell_45  (u : Mu) (P : Int → Prop) : Prop :=
  F_X12_spotCell_63 (-1) u P
theorem T_X12_spotCell_45  {u : Mu} {P : Int → Prop} {h : Hp} {g : Nat → Nat}  (m : Ms h g u)   (H : F_X12_spotCell_45 u P) : J mX12_spotCell 3 0 0 (nx (QPI h P)) 45 [none, none, none, none, none, none] [] h := by
  unfold F_X12_spotCell_45 at H
  refine j_iconst (v := Int32.ofInt (-1)) (dk dt_X12_spotCell 27 rfl) (by decide) ?_
  refine j_goto 63 (dk dt_X12_spotCell 28 rfl) (by decide) ?_
  exact j_el (T_X12_spotCell_63 (by decide) m   H) trivial
def F_X12_spotCell  (x1 : Int) (x2 : Int) (u : Mu) (P : Int → Prop) : Prop :=
  F_X12_sheetOf x1 x2 u (fun x_3 => (0 ≤ x1 ∧ x1 < 60420 ∧ F_X12_placeOf x_3 0 (mI u 32 x1) u (fun x_16 => (0 ≤ x1 ∧ x1 < 60420 ∧ F_X12_placeOf x_3 1 (mI u 33 x1) u (fun x_30 => (if x_16 < 0 then F_X12_spotCell_45 u P else (if 0 ≤ x_30 then F_X12_spotCell_63 (w32 (w32 (w32 (320 * x_3) + (w32 (10 * x_16))) + x_30)) u P else F_X12_spotCell_45 u P)))))))
theorem T_X12_spotCell  {x1 : Int} {x2 : Int} {u : Mu} {P : Int → Prop} {h : Hp} {g : Nat → Nat} (r_x1 : R32 x1) (r_x2 : R32 x2) (m : Ms h g u)  (H : F_X12_spotCell x1 x2 u P) : Con mX12_spotCell 3 0 0 [vr (some (g 0)), ii (x1), ii (x2)] h (QPI h P) := by
  refine con_of rfl (Nat.le_of_ble_eq_true rfl) (by decide) ?_
  show J mX12_spotCell 3 0 0 _ 0 [some (vr (some (g 0))), some (ii (x1)), some (ii (x2)), none, none, none] [] h
  unfold F_X12_spotCell at H
  refine j_aload_n (dk dt_X12_spotCell 0 rfl) rfl ?_
  refine j_iload_n (dk dt_X12_spotCell 1 rfl) rfl ?_
  refine j_iload_n (dk dt_X12_spotCell 2 rfl) rfl ?_
  refine jz_callV2 (dk dt_X12_spotCell 3 rfl) vl_X12_558 rfl (T_X12_sheetOf r_x1 r_x2 m H) m.1.1 rfl (by decide) (Nat.zero_le _) (Nat.zero_le _) (Nat.le_of_ble_eq_true rfl) (fun v_3 h_3 P_3 => ?_)
  obtain ⟨x_3, rfl, r_3, rfl, H⟩ := P_3
  dsimp only [rs]
  refine j_istore_n (dk dt_X12_spotCell 4 rfl) (by decide) ?_
  refine j_aload_n (dk dt_X12_spotCell 5 rfl) rfl ?_
  refine j_iload_n (dk dt_X12_spotCell 6 rfl) rfl ?_
  refine j_iconst (v := Int32.ofInt 0) (dk dt_X12_spotCell 7 rfl) (by decide) ?_
  refine j_aload_n (dk dt_X12_spotCell 8 rfl) rfl ?_
  refine jm_getA (dk dt_X12_spotCell 9 rfl) fl_X12_85 rfl (c := 14) rfl m ?_
  refine j_iload_n (dk dt_X12_spotCell 10 rfl) rfl ?_
  obtain ⟨p_15, q_15, H⟩ := H
  refine jm_iald (dk dt_X12_spotCell 11 rfl) rfl rfl m p_15 q_15 ?_
  refine jz_callV3 (dk dt_X12_spotCell 12 rfl) vl_X12_217 rfl (T_X12_placeOf r_3 (by decide) (m.2.1.1 _ _) m H) m.1.1 rfl (by decide) (Nat.zero_le _) (Nat.zero_le _) (Nat.le_of_ble_eq_true rfl) (fun v_16 h_16 P_16 => ?_)
  obtain ⟨x_16, rfl, r_16, rfl, H⟩ := P_16
  dsimp only [rs]
  refine j_istore (dk dt_X12_spotCell 13 rfl) (by decide) ?_
  refine j_aload_n (dk dt_X12_spotCell 14 rfl) rfl ?_
  refine j_iload_n (dk dt_X12_spotCell 15 rfl) rfl ?_
  refine j_iconst (v := Int32.ofInt 1) (dk dt_X12_spotCell 16 rfl) (by decide) ?_
  refine j_aload_n (dk dt_X12_spotCell 17 rfl) rfl ?_
  refine jm_getA (dk dt_X12_spotCell 18 rfl) fl_X12_88 rfl (c := 14) rfl m ?_
  refine j_iload_n (dk dt_X12_spotCell 19 rfl) rfl ?_
  obtain ⟨p_29, q_29, H⟩ := H
  refine jm_iald (dk dt_X12_spotCell 20 rfl) rfl rfl m p_29 q_29 ?_
  refine jz_callV3 (dk dt_X12_spotCell 21 rfl) vl_X12_217 rfl (T_X12_placeOf r_3 (by decide) (m.2.1.1 _ _) m H) m.1.1 rfl (by decide) (Nat.zero_le _) (Nat.zero_le _) (Nat.le_of_ble_eq_true rfl) (fun v_30 h_30 P_30 => ?_)
  obtain ⟨x_30, rfl, r_30, rfl, H⟩ := P_30
  dsimp only [rs]
  refine j_istore (dk dt_X12_spotCell 22 rfl) (by decide) ?_
  refine j_iload (dk dt_X12_spotCell 23 rfl) rfl ?_
  refine jz_if_lt 45 (dk dt_X12_spotCell 24 rfl) (by decide) r_16 H (fun H => ?_) (fun H => ?_)
  · exact j_el (T_X12_spotCell_45  m   H) trivial
  · refine j_iload (dk dt_X12_spotCell 25 rfl) rfl ?_
    refine jz_if_ge 49 (dk dt_X12_spotCell 26 rfl) (by decide) r_30 H (fun H => ?_) (fun H => ?_)
    · refine j_sipush (v := Int32.ofInt 320) (dk dt_X12_spotCell 29 rfl) (by decide) ?_
      refine j_iload_n (dk dt_X12_spotCell 30 rfl) rfl ?_
      refine jz_imul (dk dt_X12_spotCell 31 rfl) ?_
      refine j_bipush (v := Int32.ofInt 10) (dk dt_X12_spotCell 32 rfl) (by decide) ?_
      refine j_iload (dk dt_X12_spotCell 33 rfl) rfl ?_
      refine jz_imul (dk dt_X12_spotCell 34 rfl) ?_
      refine jz_iadd (dk dt_X12_spotCell 35 rfl) ?_
      refine j_iload (dk dt_X12_spotCell 36 rfl) rfl ?_
      refine jz_iadd (dk dt_X12_spotCell 37 rfl) ?_
      exact j_el (T_X12_spotCell_63 (r32_w _) m   H) trivial
    · exact j_el (T_X12_spotCell_45  m   H) trivial
def F_X12_isGone_17  (s0 : Int) (u : Mu) (P : Int → Prop) : Prop :=
  (Z1 s0 ∧ P s0)
theorem T_X12_isGone_17  {s0 : Int} {u : Mu} {P : Int → Prop} {h : Hp} {g : Nat → Nat} (r_s0 : R32 s0) (m : Ms h g u)   (H : F_X12_isGone_17 s0 u P) : J mX12_isGone 4 0 0 (nx (QPI h P)) 17 [none, none] [ii (s0)] h := by
  unfold F_X12_isGone_17 at H
  obtain ⟨hz_, H⟩ := H
  exact j_ireturn (dk dt_X12_isGone 9 rfl) rfl (nar_z hz_) ⟨_, rfl, r_s0, rfl, H⟩
def F_X12_isGone  (x1 : Int) (u : Mu) (P : Int → Prop) : Prop :=
  F_X12_spotCell x1 (mI u 0 81) u (fun x_6 => (if 0 ≤ x_6 then F_X12_isGone_17 0 u P else F_X12_isGone_17 1 u P))
theorem T_X12_isGone  {x1 : Int} {u : Mu} {P : Int → Prop} {h : Hp} {g : Nat → Nat} (r_x1 : R32 x1) (m : Ms h g u)  (H : F_X12_isGone x1 u P) : Con mX12_isGone 4 0 0 [vr (some (g 0)), ii (x1)] h (QPI h P) := by
  refine con_of rfl (Nat.le_of_ble_eq_true rfl) (by decide) ?_
  show J mX12_isGone 4 0 0 _ 0 [some (vr (some (g 0))), some (ii (x1))] [] h
  unfold F_X12_isGone at H
  refine j_aload_n (dk dt_X12_isGone 0 rfl) rfl ?_
  refine j_iload_n (dk dt_X12_isGone 1 rfl) rfl ?_
  refine j_aload_n (dk dt_X12_isGone 2 rfl) rfl ?_
  refine jm_getI (kz := 81) (dk dt_X12_isGone 3 rfl) fl_X12_686 rfl rfl m ?_
  refine jz_callV2 (dk dt_X12_isGone 4 rfl) vl_X12_582 rfl (T_X12_spotCell r_x1 (m.2.1.1 _ _) m H) m.1.1 rfl (by decide) (Nat.zero_le _) (Nat.zero_le _) (Nat.le_of_ble_eq_true rfl) (fun v_6 h_6 P_6 => ?_)
  obtain ⟨x_6, rfl, r_6, rfl, H⟩ := P_6
  dsimp only [rs]
  refine jz_if_ge 16 (dk dt_X12_isGone 5 rfl) (by decide) r_6 H (fun H => ?_) (fun H => ?_)
  · refine j_iconst (v := Int32.ofInt 0) (dk dt_X12_isGone 8 rfl) (by decide) ?_
    exact j_el (T_X12_isGone_17 (by decide) m   H) trivial
  · refine j_iconst (v := Int32.ofInt 1) (dk dt_X12_isGone 6 rfl) (by decide) ?_
    refine j_goto 17 (dk dt_X12_isGone 7 rfl) (by decide) ?_
    exact j_el (T_X12_isGone_17 (by decide) m   H) trivial
