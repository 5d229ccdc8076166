def F_X12_readFormula_88  (u : Mu) (P : Mu → Prop) : Prop :=
  P u
theorem T_X12_readFormula_88  {u : Mu} {P : Mu → Prop} {h : Hp} {g : Nat → Nat}  (m : Ms h g u)   (H : F_X12_readFormula_88 u P) : J mX12_readFormula 412 0 0 (nx (QMV g P)) 88 [none] [] h := by
  unfold F_X12_readFormula_88 at H
  exact j_return (dk dt_X12_readFormula 45 rfl) rfl ⟨_, rfl, m, H⟩
def F_X12_readFormula_70  (u : Mu) (P : Mu → Prop) : Prop :=
  (if mI u 0 56 ≤ 60 then F_X12_readFormula_88 u P else F_X12_fail 5 (mI u 0 45) u (fun u_85 => F_X12_readFormula_88 u_85 P))
theorem T_X12_readFormula_70  {u : Mu} {P : Mu → Prop} {h : Hp} {g : Nat → Nat}  (m : Ms h g u)   (H : F_X12_readFormula_70 u P) : J mX12_readFormula 412 0 0 (nx (QMV g P)) 70 [some (vr (some (g 0)))] [] h := by
  unfold F_X12_readFormula_70 at H
  refine j_aload_n (dk dt_X12_readFormula 36 rfl) rfl ?_
  refine jm_getI (kz := 56) (dk dt_X12_readFormula 37 rfl) fl_X12_327 rfl rfl m ?_
  refine j_bipush (v := Int32.ofInt 60) (dk dt_X12_readFormula 38 rfl) (by decide) ?_
  refine jz_icmp_le 88 (dk dt_X12_readFormula 39 rfl) (by decide) (m.2.1.1 _ _) (by decide) H (fun H => ?_) (fun H => ?_)
  · exact j_el (T_X12_readFormula_88  m   H) trivial
  · refine j_aload_n (dk dt_X12_readFormula 40 rfl) rfl ?_
    refine j_iconst (v := Int32.ofInt 5) (dk dt_X12_readFormula 41 rfl) (by decide) ?_
    refine j_aload_n (dk dt_X12_readFormula 42 rfl) rfl ?_
    refine jm_getI (kz := 45) (dk dt_X12_readFormula 43 rfl) fl_X12_324 rfl rfl m ?_
    refine jz_callV2 (dk dt_X12_readFormula 44 rfl) vl_X12_296 rfl (T_X12_fail (by decide) (m.2.1.1 _ _) m H) m.1.1 rfl (by decide) (Nat.zero_le _) (Nat.zero_le _) (Nat.le_of_ble_eq_true rfl) (fun v_85 h_85 P_85 => ?_)
    obtain ⟨u_85, rfl, m_85, H⟩ := P_85
    dsimp only [rs]
    exact j_el (T_X12_readFormula_88  m_85   H) trivial
def F_X12_readFormula_51  (u : Mu) (P : Mu → Prop) : Prop :=
  (if mI u 0 58 ≤ 0 then F_X12_readFormula_70 u P else F_X12_fail (mI u 0 58) (mI u 0 59) u (fun u_67 => F_X12_readFormula_70 u_67 P))
theorem T_X12_readFormula_51  {u : Mu} {P : Mu → Prop} {h : Hp} {g : Nat → Nat}  (m : Ms h g u)   (H : F_X12_readFormula_51 u P) : J mX12_readFormula 412 0 0 (nx (QMV g P)) 51 [some (vr (some (g 0)))] [] h := by
  unfold F_X12_readFormula_51 at H
  refine j_aload_n (dk dt_X12_readFormula 27 rfl) rfl ?_
  refine jm_getI (kz := 58) (dk dt_X12_readFormula 28 rfl) fl_X12_404 rfl rfl m ?_
  refine jz_if_le 70 (dk dt_X12_readFormula 29 rfl) (by decide) (m.2.1.1 _ _) H (fun H => ?_) (fun H => ?_)
  · exact j_el (T_X12_readFormula_70  m   H) (And.intro rfl trivial)
  · refine j_aload_n (dk dt_X12_readFormula 30 rfl) rfl ?_
    refine j_aload_n (dk dt_X12_readFormula 31 rfl) rfl ?_
    refine jm_getI (kz := 58) (dk dt_X12_readFormula 32 rfl) fl_X12_404 rfl rfl m ?_
    refine j_aload_n (dk dt_X12_readFormula 33 rfl) rfl ?_
    refine jm_getI (kz := 59) (dk dt_X12_readFormula 34 rfl) fl_X12_407 rfl rfl m ?_
    refine jz_callV2 (dk dt_X12_readFormula 35 rfl) vl_X12_296 rfl (T_X12_fail (m.2.1.1 _ _) (m.2.1.1 _ _) m H) m.1.1 rfl (by decide) (Nat.zero_le _) (Nat.zero_le _) (Nat.le_of_ble_eq_true rfl) (fun v_67 h_67 P_67 => ?_)
    obtain ⟨u_67, rfl, m_67, H⟩ := P_67
    dsimp only [rs]
    exact j_el (T_X12_readFormula_70  m_67   H) (And.intro rfl trivial)
def F_X12_readFormula  (u : Mu) (P : Mu → Prop) : Prop :=
  (∀ u_2, u_2 = uI u 0 58 0 → (∀ u_7, u_7 = uI u_2 0 57 0 → (∀ u_17, u_17 = uI u_7 0 46 (w32 (mI u_7 0 43 + 1)) → F_X12_next u_17 (fun u_21 => (∃ n_25, n_25 ≤ 400 ∧ F_X12_readTest n_25 u_21 (fun u_25 => (if mI u_25 0 41 = 0 then (if mI u_25 0 47 = 0 then F_X12_readFormula_51 u_25 P else F_X12_fail 1 (mI u_25 0 48) u_25 (fun u_48 => F_X12_readFormula_51 u_48 P)) else F_X12_readFormula_51 u_25 P)))))))
theorem T_X12_readFormula  {u : Mu} {P : Mu → Prop} {h : Hp} {g : Nat → Nat}  (m : Ms h g u)  (H : F_X12_readFormula u P) : Con mX12_readFormula 412 0 0 [vr (some (g 0))] h (QMV g P) := by
  refine con_of rfl (Nat.le_of_ble_eq_true rfl) (by decide) ?_
  show J mX12_readFormula 412 0 0 _ 0 [some (vr (some (g 0)))] [] h
  unfold F_X12_readFormula at H
  refine j_aload_n (dk dt_X12_readFormula 0 rfl) rfl ?_
  refine j_iconst (v := Int32.ofInt 0) (dk dt_X12_readFormula 1 rfl) (by decide) ?_
  refine jm_putI (kz := 58) (dk dt_X12_readFormula 2 rfl) fl_X12_404 rfl rfl rfl rfl m (by decide) (fun h_2 m_2 => ?_)
  replace H := H _ rfl
  refine j_aload_n (dk dt_X12_readFormula 3 rfl) rfl ?_
  refine j_iconst (v := Int32.ofInt 0) (dk dt_X12_readFormula 4 rfl) (by decide) ?_
  refine jm_putI (kz := 57) (dk dt_X12_readFormula 5 rfl) fl_X12_410 rfl rfl rfl rfl m_2 (by decide) (fun h_7 m_7 => ?_)
  replace H := H _ rfl
  refine j_aload_n (dk dt_X12_readFormula 6 rfl) rfl ?_
  refine j_aload_n (dk dt_X12_readFormula 7 rfl) rfl ?_
  refine jm_getI (kz := 43) (dk dt_X12_readFormula 8 rfl) fl_X12_290 rfl rfl m_7 ?_
  refine j_iconst (v := Int32.ofInt 1) (dk dt_X12_readFormula 9 rfl) (by decide) ?_
  refine jz_iadd (dk dt_X12_readFormula 10 rfl) ?_
  refine jm_putI (kz := 46) (dk dt_X12_readFormula 11 rfl) fl_X12_371 rfl rfl rfl rfl m_7 (r32_w _) (fun h_17 m_17 => ?_)
  replace H := H _ rfl
  refine j_aload_n (dk dt_X12_readFormula 12 rfl) rfl ?_
  refine jz_callV0 (dk dt_X12_readFormula 13 rfl) vl_X12_413 rfl (T_X12_next m_17 H) m_17.1.1 rfl (by decide) (Nat.zero_le _) (Nat.zero_le _) (Nat.le_of_ble_eq_true rfl) (fun v_21 h_21 P_21 => ?_)
  obtain ⟨u_21, rfl, m_21, H⟩ := P_21
  dsimp only [rs]
  refine j_aload_n (dk dt_X12_readFormula 14 rfl) rfl ?_
  obtain ⟨n_25, hn_25, H⟩ := H
  refine jz_callV0 (dk dt_X12_readFormula 15 rfl) vl_X12_416 rfl (T_X12_readTest (n := n_25) m_21 H) m_21.1.1 rfl (by omega) (Nat.zero_le _) (Nat.zero_le _) (Nat.le_of_ble_eq_true rfl) (fun v_25 h_25 P_25 => ?_)
  obtain ⟨u_25, rfl, m_25, H⟩ := P_25
  dsimp only [rs]
  refine j_aload_n (dk dt_X12_readFormula 16 rfl) rfl ?_
  refine jm_getI (kz := 41) (dk dt_X12_readFormula 17 rfl) fl_X12_277 rfl rfl m_25 ?_
  refine jz_if_ne 51 (dk dt_X12_readFormula 18 rfl) (by decide) (m_25.2.1.1 _ _) H (fun H => ?_) (fun H => ?_)
  · refine j_aload_n (dk dt_X12_readFormula 19 rfl) rfl ?_
    refine jm_getI (kz := 47) (dk dt_X12_readFormula 20 rfl) fl_X12_362 rfl rfl m_25 ?_
    refine jz_if_eq 51 (dk dt_X12_readFormula 21 rfl) (by decide) (m_25.2.1.1 _ _) H (fun H => ?_) (fun H => ?_)
    · exact j_el (T_X12_readFormula_51  m_25   H) (And.intro rfl trivial)
    · refine j_aload_n (dk dt_X12_readFormula 22 rfl) rfl ?_
      refine j_iconst (v := Int32.ofInt 1) (dk dt_X12_readFormula 23 rfl) (by decide) ?_
      refine j_aload_n (dk dt_X12_readFormula 24 rfl) rfl ?_
      refine jm_getI (kz := 48) (dk dt_X12_readFormula 25 rfl) fl_X12_386 rfl rfl m_25 ?_
      refine jz_callV2 (dk dt_X12_readFormula 26 rfl) vl_X12_296 rfl (T_X12_fail (by decide) (m_25.2.1.1 _ _) m_25 H) m_25.1.1 rfl (by decide) (Nat.zero_le _) (Nat.zero_le _) (Nat.le_of_ble_eq_true rfl) (fun v_48 h_48 P_48 => ?_)
      obtain ⟨u_48, rfl, m_48, H⟩ := P_48
      dsimp only [rs]
      exact j_el (T_X12_readFormula_51  m_48   H) (And.intro rfl trivial)
  · exact j_el (T_X12_readFormula_51  m_25   H) (And.intro rfl trivial)
def L_X12_enter_57  (x1 : Int) (x2 : Int) (u : Mu) (P : Mu ⊕ ((Mu)) → Prop) : Prop :=
  (if mI u 0 44 ≤ mI u 0 43 then P (.inr u) else (0 ≤ mI u 0 43 ∧ mI u 0 43 < 400 ∧ (if mI u 39 (mI u 0 43) = 32 then (∀ u_89, u_89 = uI u 0 43 (w32 (mI u 0 43 + 1)) → P (.inl u_89)) else P (.inr u))))
theorem U_X12_enter_57  {x1 : Int} {x2 : Int} {u : Mu} {P : Mu ⊕ ((Mu)) → Prop} {h : Hp} {g : Nat → Nat} {post : Option Sv ⊕ String → Hp → Prop} (r_x1 : R32 x1) (r_x2 : R32 x2) (m : Ms h g u)  (hl : ∀ (u : Mu) (h : Hp), P (.inl u) → Ms h g u → J mX12_enter 413 0 0 post 57 [some (vr (some (g 0))), some (ii (x1)), some (ii (x2)), none, none, none] [] h) (he0 : ∀ (u : Mu) (h : Hp), P (.inr u) → Ms h g u → J mX12_enter 413 0 0 post 95 [some (vr (some (g 0))), some (ii (x1)), some (ii (x2)), none, none, none] [] h) (H : L_X12_enter_57 x1 x2 u P) : J mX12_enter 413 0 0 post 57 [some (vr (some (g 0))), some (ii (x1)), some (ii (x2)), none, none, none] [] h := by
  unfold L_X12_enter_57 at H
  refine j_aload_n (dk dt_X12_enter 34 rfl) rfl ?_
  refine jm_getI (kz := 43) (dk dt_X12_enter 35 rfl) fl_X12_290 rfl rfl m ?_
  refine j_aload_n (dk dt_X12_enter 36 rfl) rfl ?_
  refine jm_getI (kz := 44) (dk dt_X12_enter 37 rfl) fl_X12_261 rfl rfl m ?_
  refine jz_icmp_ge 95 (dk dt_X12_enter 38 rfl) (by decide) (m.2.1.1 _ _) (m.2.1.1 _ _) H (fun H => ?_) (fun H => ?_)
  · exact j_el (he0 _ _ H m) (And.intro rfl (And.intro rfl (And.intro rfl trivial)))
  · refine j_aload_n (dk dt_X12_enter 39 rfl) rfl ?_
    refine jm_getA (dk dt_X12_enter 40 rfl) fl_X12_106 rfl (c := 14) rfl m ?_
    refine j_aload_n (dk dt_X12_enter 41 rfl) rfl ?_
    refine jm_getI (kz := 43) (dk dt_X12_enter 42 rfl) fl_X12_290 rfl rfl m ?_
    obtain ⟨p_76, q_76, H⟩ := H
    refine jm_iald (dk dt_X12_enter 43 rfl) rfl rfl m p_76 q_76 ?_
    refine j_bipush (v := Int32.ofInt 32) (dk dt_X12_enter 44 rfl) (by decide) ?_
    refine jz_icmp_ne 95 (dk dt_X12_enter 45 rfl) (by decide) (m.2.1.1 _ _) (by decide) H (fun H => ?_) (fun H => ?_)
    · refine j_aload_n (dk dt_X12_enter 46 rfl) rfl ?_
      refine j_dup (dk dt_X12_enter 47 rfl) rfl ?_
      refine jm_getI (kz := 43) (dk dt_X12_enter 48 rfl) fl_X12_290 rfl rfl m ?_
      refine j_iconst (v := Int32.ofInt 1) (dk dt_X12_enter 49 rfl) (by decide) ?_
      refine jz_iadd (dk dt_X12_enter 50 rfl) ?_
      refine jm_putI (kz := 43) (dk dt_X12_enter 51 rfl) fl_X12_290 rfl rfl rfl rfl m (r32_w _) (fun h_89 m_89 => ?_)
      replace H := H _ rfl
      refine j_goto 57 (dk dt_X12_enter 52 rfl) (by decide) ?_
      exact j_el (hl _ _ H m_89) (And.intro rfl (And.intro rfl (And.intro rfl trivial)))
    · exact j_el (he0 _ _ H m) (And.intro rfl (And.intro rfl (And.intro rfl trivial)))
def L_X12_enter_95  (x1 : Int) (x2 : Int) (u : Mu) (P : Mu ⊕ ((Mu)) → Prop) : Prop :=
  (if mI u 0 44 ≤ mI u 0 43 then P (.inr u) else (0 ≤ w32 ((mI u 0 44) - 1) ∧ w32 ((mI u 0 44) - 1) < 400 ∧ (if mI u 39 (w32 ((mI u 0 44) - 1)) = 32 then (∀ u_129, u_129 = uI u 0 44 (w32 ((mI u 0 44) - 1)) → P (.inl u_129)) else P (.inr u))))
theorem U_X12_enter_95  {x1 : Int} {x2 : Int} {u : Mu} {P : Mu ⊕ ((Mu)) → Prop} {h : Hp} {g : Nat → Nat} {post : Option Sv ⊕ String → Hp → Prop} (r_x1 : R32 x1) (r_x2 : R32 x2) (m : Ms h g u)  (hl : ∀ (u : Mu) (h : Hp), P (.inl u) → Ms h g u → J mX12_enter 413 0 0 post 95 [some (vr (some (g 0))), some (ii (x1)), some (ii (x2)), none, none, none] [] h) (he0 : ∀ (u : Mu) (h : Hp), P (.inr u) → Ms h g u → J mX12_enter 413 0 0 post 135 [some (vr (some (g 0))), some (ii (x1)), some (ii (x2)), none, none, none] [] h) (H : L_X12_enter_95 x1 x2 u P) : J mX12_enter 413 0 0 post 95 [some (vr (some (g 0))), some (ii (x1)), some (ii (x2)), none, none, none] [] h := by
  unfold L_X12_enter_95 at H
  refine j_aload_n (dk dt_X12_enter 53 rfl) rfl ?_
  refine jm_getI (kz := 44) (dk dt_X12_enter 54 rfl) fl_X12_261 rfl rfl m ?_
  refine j_aload_n (dk dt_X12_enter 55 rfl) rfl ?_
  refine jm_getI (kz := 43) (dk dt_X12_enter 56 rfl) fl_X12_290 rfl rfl m ?_
  refine jz_icmp_le 135 (dk dt_X12_enter 57 rfl) (by decide) (m.2.1.1 _ _) (m.2.1.1 _ _) H (fun H => ?_) (fun H => ?_)
  · exact j_el (he0 _ _ H m) (And.intro rfl (And.intro rfl (And.intro rfl trivial)))
  · refine j_aload_n (dk dt_X12_enter 58 rfl) rfl ?_
    refine jm_getA (dk dt_X12_enter 59 rfl) fl_X12_106 rfl (c := 14) rfl m ?_
    refine j_aload_n (dk dt_X12_enter 60 rfl) rfl ?_
    refine jm_getI (kz := 44) (dk dt_X12_enter 61 rfl) fl_X12_261 rfl rfl m ?_
    refine j_iconst (v := Int32.ofInt 1) (dk dt_X12_enter 62 rfl) (by decide) ?_
    refine jz_isub (dk dt_X12_enter 63 rfl) ?_
    obtain ⟨p_116, q_116, H⟩ := H
    refine jm_iald (dk dt_X12_enter 64 rfl) rfl rfl m p_116 q_116 ?_
    refine j_bipush (v := Int32.ofInt 32) (dk dt_X12_enter 65 rfl) (by decide) ?_
    refine jz_icmp_ne 135 (dk dt_X12_enter 66 rfl) (by decide) (m.2.1.1 _ _) (by decide) H (fun H => ?_) (fun H => ?_)
    · refine j_aload_n (dk dt_X12_enter 67 rfl) rfl ?_
      refine j_dup (dk dt_X12_enter 68 rfl) rfl ?_
      refine jm_getI (kz := 44) (dk dt_X12_enter 69 rfl) fl_X12_261 rfl rfl m ?_
      refine j_iconst (v := Int32.ofInt 1) (dk dt_X12_enter 70 rfl) (by decide) ?_
      refine jz_isub (dk dt_X12_enter 71 rfl) ?_
      refine jm_putI (kz := 44) (dk dt_X12_enter 72 rfl) fl_X12_261 rfl rfl rfl rfl m (r32_w _) (fun h_129 m_129 => ?_)
      replace H := H _ rfl
      refine j_goto 95 (dk dt_X12_enter 73 rfl) (by decide) ?_
      exact j_el (hl _ _ H m_129) (And.intro rfl (And.intro rfl (And.intro rfl trivial)))
    · exact j_el (he0 _ _ H m) (And.intro rfl (And.intro rfl (And.intro rfl trivial)))
def F_X12_enter_266  (x1 : Int) (x2 : Int) (x5 : Int) (u : Mu) (P : Int → Mu → Prop) : Prop :=
  F_X12_step u (fun x_267 u_267 => F_X12_setCell x1 x2 x5 u_267 (fun u_276 => P (mI u_276 0 56) u_276))
theorem T_X12_enter_266  {x1 : Int} {x2 : Int} {x5 : Int} {u : Mu} {P : Int → Mu → Prop} {h : Hp} {g : Nat → Nat} (r_x1 : R32 x1) (r_x2 : R32 x2) (r_x5 : R32 x5) (m : Ms h g u)   (H : F_X12_enter_266 x1 x2 x5 u P) : J mX12_enter 413 0 0 (nx (QMI g P)) 266 [some (vr (some (g 0))), some (ii (x1)), some (ii (x2)), none, none, some (ii (x5))] [] h := by
  unfold F_X12_enter_266 at H
  refine j_aload_n (dk dt_X12_enter 142 rfl) rfl ?_
  refine jz_callV0 (dk dt_X12_enter 143 rfl) vl_X12_340 rfl (T_X12_step m H) m.1.1 rfl (by decide) (Nat.zero_le _) (Nat.zero_le _) (Nat.le_of_ble_eq_true rfl) (fun v_267 h_267 P_267 => ?_)
  obtain ⟨x_267, u_267, rfl, r_267, m_267, H⟩ := P_267
  dsimp only [rs]
  refine j_pop (dk dt_X12_enter 144 rfl) rfl ?_
  refine j_aload_n (dk dt_X12_enter 145 rfl) rfl ?_
  refine j_iload_n (dk dt_X12_enter 146 rfl) rfl ?_
  refine j_iload_n (dk dt_X12_enter 147 rfl) rfl ?_
  refine j_iload (dk dt_X12_enter 148 rfl) rfl ?_
  refine jz_callV3 (dk dt_X12_enter 149 rfl) vl_X12_343 rfl (T_X12_setCell r_x1 r_x2 r_x5 m_267 H) m_267.1.1 rfl (by decide) (Nat.zero_le _) (Nat.zero_le _) (Nat.le_of_ble_eq_true rfl) (fun v_276 h_276 P_276 => ?_)
  obtain ⟨u_276, rfl, m_276, H⟩ := P_276
  dsimp only [rs]
  refine j_aload_n (dk dt_X12_enter 150 rfl) rfl ?_
  refine jm_getI (kz := 56) (dk dt_X12_enter 151 rfl) fl_X12_327 rfl rfl m_276 ?_
  exact j_ireturn (dk dt_X12_enter 152 rfl) rfl rfl ⟨_, _, rfl, (m_276.2.1.1 _ _), m_276, H⟩
def F_X12_enter_193  (x1 : Int) (x2 : Int) (x4 : Int) (x5 : Int) (u : Mu) (P : Int → Mu → Prop) : Prop :=
  (if mI u 0 41 ≤ 0 then (if w32 (mI u 0 25 + (mI u 0 56)) ≤ 60000 then (if x4 = 0 then F_X12_enter_266 x1 x2 x5 u P else (0 ≤ mI u 0 25 ∧ mI u 0 25 < 60420 ∧ (∀ u_252, u_252 = uI u 38 (mI u 0 25) (mI u 0 56) → (∀ u_263, u_263 = uI u_252 0 25 (w32 (mI u_252 0 25 + (mI u_252 0 56))) → F_X12_enter_266 x1 x2 (w32 (mI u 0 25 + 1)) u_263 P)))) else F_X12_throwing 3 u (fun x_223 u_223 => P x_223 u_223)) else F_X12_throwing 2 u (fun x_202 u_202 => P x_202 u_202))
theorem T_X12_enter_193  {x1 : Int} {x2 : Int} {x4 : Int} {x5 : Int} {u : Mu} {P : Int → Mu → Prop} {h : Hp} {g : Nat → Nat} (r_x1 : R32 x1) (r_x2 : R32 x2) (r_x4 : R32 x4) (r_x5 : R32 x5) (m : Ms h g u)   (H : F_X12_enter_193 x1 x2 x4 x5 u P) : J mX12_enter 413 0 0 (nx (QMI g P)) 193 [some (vr (some (g 0))), some (ii (x1)), some (ii (x2)), none, some (ii (x4)), some (ii (x5))] [] h := by
  unfold F_X12_enter_193 at H
  refine j_aload_n (dk dt_X12_enter 103 rfl) rfl ?_
  refine jm_getI (kz := 41) (dk dt_X12_enter 104 rfl) fl_X12_277 rfl rfl m ?_
  refine jz_if_le 206 (dk dt_X12_enter 105 rfl) (by decide) (m.2.1.1 _ _) H (fun H => ?_) (fun H => ?_)
  · refine j_aload_n (dk dt_X12_enter 110 rfl) rfl ?_
    refine jm_getI (kz := 25) (dk dt_X12_enter 111 rfl) fl_X12_336 rfl rfl m ?_
    refine j_aload_n (dk dt_X12_enter 112 rfl) rfl ?_
    refine jm_getI (kz := 56) (dk dt_X12_enter 113 rfl) fl_X12_327 rfl rfl m ?_
    refine jz_iadd (dk dt_X12_enter 114 rfl) ?_
    refine j_ldcw (v := Int32.ofInt (60000)) (dk dt_X12_enter 115 rfl) (by exact kl_X12_339) ?_
    refine jz_icmp_le 227 (dk dt_X12_enter 116 rfl) (by decide) (r32_w _) (by decide) H (fun H => ?_) (fun H => ?_)
    · refine j_iload (dk dt_X12_enter 121 rfl) rfl ?_
      refine jz_if_eq 266 (dk dt_X12_enter 122 rfl) (by decide) r_x4 H (fun H => ?_) (fun H => ?_)
      · exact j_el (T_X12_enter_266 r_x1 r_x2 r_x5 m   H) (And.intro rfl (And.intro rfl (And.intro rfl (And.intro rfl trivial))))
      · refine j_aload_n (dk dt_X12_enter 123 rfl) rfl ?_
        refine jm_getI (kz := 25) (dk dt_X12_enter 124 rfl) fl_X12_336 rfl rfl m ?_
        refine j_iconst (v := Int32.ofInt 1) (dk dt_X12_enter 125 rfl) (by decide) ?_
        refine jz_iadd (dk dt_X12_enter 126 rfl) ?_
        refine j_istore (dk dt_X12_enter 127 rfl) (by decide) ?_
        refine j_aload_n (dk dt_X12_enter 128 rfl) rfl ?_
        refine jm_getA (dk dt_X12_enter 129 rfl) fl_X12_103 rfl (c := 14) rfl m ?_
        refine j_aload_n (dk dt_X12_enter 130 rfl) rfl ?_
        refine jm_getI (kz := 25) (dk dt_X12_enter 131 rfl) fl_X12_336 rfl rfl m ?_
        refine j_aload_n (dk dt_X12_enter 132 rfl) rfl ?_
        refine jm_getI (kz := 56) (dk dt_X12_enter 133 rfl) fl_X12_327 rfl rfl m ?_
        obtain ⟨p_252, q_252, H⟩ := H
        refine jm_iast (dk dt_X12_enter 134 rfl) rfl rfl m p_252 q_252 (m.2.1.1 _ _) (fun h_252 m_252 => ?_)
        replace H := H _ rfl
        refine j_aload_n (dk dt_X12_enter 135 rfl) rfl ?_
        refine j_aload_n (dk dt_X12_enter 136 rfl) rfl ?_
        refine jm_getI (kz := 25) (dk dt_X12_enter 137 rfl) fl_X12_336 rfl rfl m_252 ?_
        refine j_aload_n (dk dt_X12_enter 138 rfl) rfl ?_
        refine jm_getI (kz := 56) (dk dt_X12_enter 139 rfl) fl_X12_327 rfl rfl m_252 ?_
        refine jz_iadd (dk dt_X12_enter 140 rfl) ?_
        refine jm_putI (kz := 25) (dk dt_X12_enter 141 rfl) fl_X12_336 rfl rfl rfl rfl m_252 (r32_w _) (fun h_263 m_263 => ?_)
        replace H := H _ rfl
        exact j_el (T_X12_enter_266 r_x1 r_x2 (r32_w _) m_263   H) (And.intro rfl (And.intro rfl (And.intro rfl (And.intro rfl trivial))))
    · refine j_aload_n (dk dt_X12_enter 117 rfl) rfl ?_
      refine j_iconst (v := Int32.ofInt 3) (dk dt_X12_enter 118 rfl) (by decide) ?_
      refine jz_callV1 (dk dt_X12_enter 119 rfl) vl_X12_237 rfl (T_X12_throwing (by decide) m H) m.1.1 rfl (by decide) (Nat.zero_le _) (Nat.zero_le _) (Nat.le_of_ble_eq_true rfl) (fun v_223 h_223 P_223 => ?_)
      obtain ⟨x_223, u_223, rfl, r_223, m_223, H⟩ := P_223
      dsimp only [rs]
      exact j_ireturn (dk dt_X12_enter 120 rfl) rfl rfl ⟨_, _, rfl, r_223, m_223, H⟩
  · refine j_aload_n (dk dt_X12_enter 106 rfl) rfl ?_
    refine j_iconst (v := Int32.ofInt 2) (dk dt_X12_enter 107 rfl) (by decide) ?_
    refine jz_callV1 (dk dt_X12_enter 108 rfl) vl_X12_237 rfl (T_X12_throwing (by decide) m H) m.1.1 rfl (by decide) (Nat.zero_le _) (Nat.zero_le _) (Nat.le_of_ble_eq_true rfl) (fun v_202 h_202 P_202 => ?_)
    obtain ⟨x_202, u_202, rfl, r_202, m_202, H⟩ := P_202
    dsimp only [rs]
    exact j_ireturn (dk dt_X12_enter 109 rfl) rfl rfl ⟨_, _, rfl, r_202, m_202, H⟩
def F_X12_enter_165  (x1 : Int) (x2 : Int) (s0 : Int) (u : Mu) (P : Int → Mu → Prop) : Prop :=
  (∀ u_172, u_172 = uI u 0 56 0 → (if s0 = 0 then F_X12_plainEntered u_172 (fun x_188 u_188 => F_X12_enter_193 x1 x2 s0 x_188 u_188 P) else F_X12_readFormula u_172 (fun u_181 => F_X12_enter_193 x1 x2 s0 0 u_181 P)))
theorem T_X12_enter_165  {x1 : Int} {x2 : Int} {s0 : Int} {u : Mu} {P : Int → Mu → Prop} {h : Hp} {g : Nat → Nat} (r_x1 : R32 x1) (r_x2 : R32 x2) (r_s0 : R32 s0) (m : Ms h g u)   (H : F_X12_enter_165 x1 x2 s0 u P) : J mX12_enter 413 0 0 (nx (QMI g P)) 165 [some (vr (some (g 0))), some (ii (x1)), some (ii (x2)), none, none, none] [ii (s0)] h := by
  unfold F_X12_enter_165 at H
  refine j_istore (dk dt_X12_enter 89 rfl) (by decide) ?_
  refine j_iconst (v := Int32.ofInt 0) (dk dt_X12_enter 90 rfl) (by decide) ?_
  refine j_istore (dk dt_X12_enter 91 rfl) (by decide) ?_
  refine j_aload_n (dk dt_X12_enter 92 rfl) rfl ?_
  refine j_iconst (v := Int32.ofInt 0) (dk dt_X12_enter 93 rfl) (by decide) ?_
  refine jm_putI (kz := 56) (dk dt_X12_enter 94 rfl) fl_X12_327 rfl rfl rfl rfl m (by decide) (fun h_172 m_172 => ?_)
  replace H := H _ rfl
  refine j_iload (dk dt_X12_enter 95 rfl) rfl ?_
  refine jz_if_eq 187 (dk dt_X12_enter 96 rfl) (by decide) r_s0 H (fun H => ?_) (fun H => ?_)
  · refine j_aload_n (dk dt_X12_enter 100 rfl) rfl ?_
    refine jz_callV0 (dk dt_X12_enter 101 rfl) vl_X12_333 rfl (T_X12_plainEntered m_172 H) m_172.1.1 rfl (by decide) (Nat.zero_le _) (Nat.zero_le _) (Nat.le_of_ble_eq_true rfl) (fun v_188 h_188 P_188 => ?_)
    obtain ⟨x_188, u_188, rfl, r_188, m_188, H⟩ := P_188
    dsimp only [rs]
    refine j_istore (dk dt_X12_enter 102 rfl) (by decide) ?_
    exact j_el (T_X12_enter_193 r_x1 r_x2 r_s0 r_188 m_188   H) (And.intro rfl (And.intro rfl (And.intro rfl (And.intro rfl (And.intro rfl trivial)))))
  · refine j_aload_n (dk dt_X12_enter 97 rfl) rfl ?_
    refine jz_callV0 (dk dt_X12_enter 98 rfl) vl_X12_330 rfl (T_X12_readFormula m_172 H) m_172.1.1 rfl (by decide) (Nat.zero_le _) (Nat.zero_le _) (Nat.le_of_ble_eq_true rfl) (fun v_181 h_181 P_181 => ?_)
    obtain ⟨u_181, rfl, m_181, H⟩ := P_181
    dsimp only [rs]
    refine j_goto 193 (dk dt_X12_enter 99 rfl) (by decide) ?_
    exact j_el (T_X12_enter_193 r_x1 r_x2 r_s0 (by decide) m_181   H) (And.intro rfl (And.intro rfl (And.intro rfl (And.intro rfl (And.intro rfl trivial)))))
def F_X12_enter_164  (x1 : Int) (x2 : Int) (u : Mu) (P : Int → Mu → Prop) : Prop :=
  F_X12_enter_165 x1 x2 0 u P
theorem T_X12_enter_164  {x1 : Int} {x2 : Int} {u : Mu} {P : Int → Mu → Prop} {h : Hp} {g : Nat → Nat} (r_x1 : R32 x1) (r_x2 : R32 x2) (m : Ms h g u)   (H : F_X12_enter_164 x1 x2 u P) : J mX12_enter 413 0 0 (nx (QMI g P)) 164 [some (vr (some (g 0))), some (ii (x1)), some (ii (x2)), none, none, none] [] h := by
  unfold F_X12_enter_164 at H
  refine j_iconst (v := Int32.ofInt 0) (dk dt_X12_enter 88 rfl) (by decide) ?_
  exact j_el (T_X12_enter_165 r_x1 r_x2 (by decide) m   H) (And.intro rfl (And.intro rfl (And.intro rfl trivial)))
def F_X12_enter_135  (x1 : Int) (x2 : Int) (u : Mu) (P : Int → Mu → Prop) : Prop :=
  (if mI u 0 44 ≤ mI u 0 43 then F_X12_enter_164 x1 x2 u P else (0 ≤ mI u 0 43 ∧ mI u 0 43 < 400 ∧ (if mI u 39 (mI u 0 43) = 61 then F_X12_enter_165 x1 x2 1 u P else F_X12_enter_164 x1 x2 u P)))
theorem T_X12_enter_135  {x1 : Int} {x2 : Int} {u : Mu} {P : Int → Mu → Prop} {h : Hp} {g : Nat → Nat} (r_x1 : R32 x1) (r_x2 : R32 x2) (m : Ms h g u)   (H : F_X12_enter_135 x1 x2 u P) : J mX12_enter 413 0 0 (nx (QMI g P)) 135 [some (vr (some (g 0))), some (ii (x1)), some (ii (x2)), none, none, none] [] h := by
  unfold F_X12_enter_135 at H
  refine j_aload_n (dk dt_X12_enter 74 rfl) rfl ?_
  refine jm_getI (kz := 43) (dk dt_X12_enter 75 rfl) fl_X12_290 rfl rfl m ?_
  refine j_aload_n (dk dt_X12_enter 76 rfl) rfl ?_
  refine jm_getI (kz := 44) (dk dt_X12_enter 77 rfl) fl_X12_261 rfl rfl m ?_
  refine jz_icmp_ge 164 (dk dt_X12_enter 78 rfl) (by decide) (m.2.1.1 _ _) (m.2.1.1 _ _) H (fun H => ?_) (fun H => ?_)
  · exact j_el (T_X12_enter_164 r_x1 r_x2 m   H) (And.intro rfl (And.intro rfl (And.intro rfl trivial)))
  · refine j_aload_n (dk dt_X12_enter 79 rfl) rfl ?_
    refine jm_getA (dk dt_X12_enter 80 rfl) fl_X12_106 rfl (c := 14) rfl m ?_
    refine j_aload_n (dk dt_X12_enter 81 rfl) rfl ?_
    refine jm_getI (kz := 43) (dk dt_X12_enter 82 rfl) fl_X12_290 rfl rfl m ?_
    obtain ⟨p_154, q_154, H⟩ := H
    refine jm_iald (dk dt_X12_enter 83 rfl) rfl rfl m p_154 q_154 ?_
    refine j_bipush (v := Int32.ofInt 61) (dk dt_X12_enter 84 rfl) (by decide) ?_
    refine jz_icmp_ne 164 (dk dt_X12_enter 85 rfl) (by decide) (m.2.1.1 _ _) (by decide) H (fun H => ?_) (fun H => ?_)
    · refine j_iconst (v := Int32.ofInt 1) (dk dt_X12_enter 86 rfl) (by decide) ?_
      refine j_goto 165 (dk dt_X12_enter 87 rfl) (by decide) ?_
      exact j_el (T_X12_enter_165 r_x1 r_x2 (by decide) m   H) (And.intro rfl (And.intro rfl (And.intro rfl trivial)))
    · exact j_el (T_X12_enter_164 r_x1 r_x2 m   H) (And.intro rfl (And.intro rfl (And.intro rfl trivial)))
def F_X12_enter_95  (x1 : Int) (x2 : Int) (u : Mu) (P : Int → Mu → Prop) : Prop :=
  lp (S := Mu) (E := (Mu)) (fun q P_ => L_X12_enter_95 x1 x2 q P_) u (fun (u : Mu) => F_X12_enter_135 x1 x2 u P)
theorem T_X12_enter_95  {x1 : Int} {x2 : Int} {u : Mu} {P : Int → Mu → Prop} {h : Hp} {g : Nat → Nat} (r_x1 : R32 x1) (r_x2 : R32 x2) (m : Ms h g u)   (H : F_X12_enter_95 x1 x2 u P) : J mX12_enter 413 0 0 (nx (QMI g P)) 95 [some (vr (some (g 0))), some (ii (x1)), some (ii (x2)), none, none, none] [] h := by
  unfold F_X12_enter_95 at H
  refine lp_J (G := fun q => ∀ h : Hp, Ms h g (q) → J mX12_enter 413 0 0 (nx (QMI g P)) 95 [some (vr (some (g 0))), some (ii (x1)), some (ii (x2)), none, none, none] [] h) (fun u P_ hl_ he_ Hb => ?_) u H _ m
  intro h m
  refine U_X12_enter_95 (P := P_) r_x1 r_x2 m  (fun u h Hp m => hl_ u Hp h m) ?_ Hb
  · intro u h Hp m
    have H := he_ _ Hp
    exact j_el (T_X12_enter_135 r_x1 r_x2 m   H) (And.intro rfl (And.intro rfl (And.intro rfl trivial)))
def F_X12_enter_57  (x1 : Int) (x2 : Int) (u : Mu) (P : Int → Mu → Prop) : Prop :=
  lp (S := Mu) (E := (Mu)) (fun q P_ => L_X12_enter_57 x1 x2 q P_) u (fun (u : Mu) => F_X12_enter_95 x1 x2 u P)
theorem T_X12_enter_57  {x1 : Int} {x2 : Int} {u : Mu} {P : Int → Mu → Prop} {h : Hp} {g : Nat → Nat} (r_x1 : R32 x1) (r_x2 : R32 x2) (m : Ms h g u)   (H : F_X12_enter_57 x1 x2 u P) : J mX12_enter 413 0 0 (nx (QMI g P)) 57 [some (vr (some (g 0))), some (ii (x1)), some (ii (x2)), none, none, none] [] h := by
  unfold F_X12_enter_57 at H
  refine lp_J (G := fun q => ∀ h : Hp, Ms h g (q) → J mX12_enter 413 0 0 (nx (QMI g P)) 57 [some (vr (some (g 0))), some (ii (x1)), some (ii (x2)), none, none, none] [] h) (fun u P_ hl_ he_ Hb => ?_) u H _ m
  intro h m
  refine U_X12_enter_57 (P := P_) r_x1 r_x2 m  (fun u h Hp m => hl_ u Hp h m) ?_ Hb
  · intro u h Hp m
    have H := he_ _ Hp
    exact j_el (T_X12_enter_95 r_x1 r_x2 m   H) (And.intro rfl (And.intro rfl (And.intro rfl trivial)))
def F_X12_enter  (x1 : Int) (x2 : Int) (u : Mu) (P : Int → Mu → Prop) : Prop :=
  (∀ u_2, u_2 = uI u 0 0 0 → F_X12_isCell 40 x1 x2 u_2 (fun x_10 => (if x_10 = 0 then F_X12_throwing 1 u_2 (fun x_18 u_18 => P x_18 u_18) else (∀ u_29, u_29 = uI u_2 0 40 0 → (∀ u_34, u_34 = uI u_29 0 41 0 → (∀ u_39, u_39 = uI u_34 0 42 (-1) → (∀ u_44, u_44 = uI u_39 0 43 0 → (∀ u_49, u_49 = uI u_44 0 44 (mI u_2 0 40) → (∀ u_54, u_54 = uI u_49 0 45 (mI u_2 0 40) → F_X12_enter_57 x1 x2 u_54 P)))))))))
theorem T_X12_enter  {x1 : Int} {x2 : Int} {u : Mu} {P : Int → Mu → Prop} {h : Hp} {g : Nat → Nat} (r_x1 : R32 x1) (r_x2 : R32 x2) (m : Ms h g u)  (H : F_X12_enter x1 x2 u P) : Con mX12_enter 413 0 0 [vr (some (g 0)), ii (x1), ii (x2)] h (QMI g P) := by
  refine con_of rfl (Nat.le_of_ble_eq_true rfl) (by decide) ?_
  show J mX12_enter 413 0 0 _ 0 [some (vr (some (g 0))), some (ii (x1)), some (ii (x2)), none, none, none] [] h
  unfold F_X12_enter at H
  refine j_aload_n (dk dt_X12_enter 0 rfl) rfl ?_
  refine j_iconst (v := Int32.ofInt 0) (dk dt_X12_enter 1 rfl) (by decide) ?_
  refine jm_putI (kz := 0) (dk dt_X12_enter 2 rfl) fl_X12_202 rfl rfl rfl rfl m (by decide) (fun h_2 m_2 => ?_)
  replace H := H _ rfl
  refine j_aload_n (dk dt_X12_enter 3 rfl) rfl ?_
  refine j_bipush (v := Int32.ofInt 40) (dk dt_X12_enter 4 rfl) (by decide) ?_
  refine j_iload_n (dk dt_X12_enter 5 rfl) rfl ?_
  refine j_iload_n (dk dt_X12_enter 6 rfl) rfl ?_
  refine jz_callV3 (dk dt_X12_enter 7 rfl) vl_X12_321 rfl (T_X12_isCell (by decide) r_x1 r_x2 m_2 H) m_2.1.1 rfl (by decide) (Nat.zero_le _) (Nat.zero_le _) (Nat.le_of_ble_eq_true rfl) (fun v_10 h_10 P_10 => ?_)
  obtain ⟨x_10, rfl, r_10, rfl, H⟩ := P_10
  dsimp only [rs]
  refine jz_if_ne 22 (dk dt_X12_enter 8 rfl) (by decide) r_10 H (fun H => ?_) (fun H => ?_)
  · refine j_aload_n (dk dt_X12_enter 9 rfl) rfl ?_
    refine j_iconst (v := Int32.ofInt 1) (dk dt_X12_enter 10 rfl) (by decide) ?_
    refine jz_callV1 (dk dt_X12_enter 11 rfl) vl_X12_237 rfl (T_X12_throwing (by decide) m_2 H) m_2.1.1 rfl (by decide) (Nat.zero_le _) (Nat.zero_le _) (Nat.le_of_ble_eq_true rfl) (fun v_18 h_18 P_18 => ?_)
    obtain ⟨x_18, u_18, rfl, r_18, m_18, H⟩ := P_18
    dsimp only [rs]
    exact j_ireturn (dk dt_X12_enter 12 rfl) rfl rfl ⟨_, _, rfl, r_18, m_18, H⟩
  · refine j_aload_n (dk dt_X12_enter 13 rfl) rfl ?_
    refine jm_getI (kz := 40) (dk dt_X12_enter 14 rfl) fl_X12_258 rfl rfl m_2 ?_
    refine j_istore_n (dk dt_X12_enter 15 rfl) (by decide) ?_
    refine j_aload_n (dk dt_X12_enter 16 rfl) rfl ?_
    refine j_iconst (v := Int32.ofInt 0) (dk dt_X12_enter 17 rfl) (by decide) ?_
    refine jm_putI (kz := 40) (dk dt_X12_enter 18 rfl) fl_X12_258 rfl rfl rfl rfl m_2 (by decide) (fun h_29 m_29 => ?_)
    replace H := H _ rfl
    refine j_aload_n (dk dt_X12_enter 19 rfl) rfl ?_
    refine j_iconst (v := Int32.ofInt 0) (dk dt_X12_enter 20 rfl) (by decide) ?_
    refine jm_putI (kz := 41) (dk dt_X12_enter 21 rfl) fl_X12_277 rfl rfl rfl rfl m_29 (by decide) (fun h_34 m_34 => ?_)
    replace H := H _ rfl
    refine j_aload_n (dk dt_X12_enter 22 rfl) rfl ?_
    refine j_iconst (v := Int32.ofInt (-1)) (dk dt_X12_enter 23 rfl) (by decide) ?_
    refine jm_putI (kz := 42) (dk dt_X12_enter 24 rfl) fl_X12_280 rfl rfl rfl rfl m_34 (by decide) (fun h_39 m_39 => ?_)
    replace H := H _ rfl
    refine j_aload_n (dk dt_X12_enter 25 rfl) rfl ?_
    refine j_iconst (v := Int32.ofInt 0) (dk dt_X12_enter 26 rfl) (by decide) ?_
    refine jm_putI (kz := 43) (dk dt_X12_enter 27 rfl) fl_X12_290 rfl rfl rfl rfl m_39 (by decide) (fun h_44 m_44 => ?_)
    replace H := H _ rfl
    refine j_aload_n (dk dt_X12_enter 28 rfl) rfl ?_
    refine j_iload_n (dk dt_X12_enter 29 rfl) rfl ?_
    refine jm_putI (kz := 44) (dk dt_X12_enter 30 rfl) fl_X12_261 rfl rfl rfl rfl m_44 (m_2.2.1.1 _ _) (fun h_49 m_49 => ?_)
    replace H := H _ rfl
    refine j_aload_n (dk dt_X12_enter 31 rfl) rfl ?_
    refine j_iload_n (dk dt_X12_enter 32 rfl) rfl ?_
    refine jm_putI (kz := 45) (dk dt_X12_enter 33 rfl) fl_X12_324 rfl rfl rfl rfl m_49 (m_2.2.1.1 _ _) (fun h_54 m_54 => ?_)
    replace H := H _ rfl
    exact j_el (T_X12_enter_57 r_x1 r_x2 m_54   H) (And.intro rfl (And.intro rfl (And.intro rfl trivial)))
def F_X12_erase_28  (u : Mu) (P : Int → Mu → Prop) : Prop :=
  F_X12_throwing 1 u (fun x_30 u_30 => P x_30 u_30)
theorem T_X12_erase_28  {u : Mu} {P : Int → Mu → Prop} {h : Hp} {g : Nat → Nat}  (m : Ms h g u)   (H : F_X12_erase_28 u P) : J mX12_erase 3 0 0 (nx (QMI g P)) 28 [some (vr (some (g 0))), none, none, none, none, none, none, none] [] h := by
  unfold F_X12_erase_28 at H
  refine j_aload_n (dk dt_X12_erase 15 rfl) rfl ?_
  refine j_iconst (v := Int32.ofInt 1) (dk dt_X12_erase 16 rfl) (by decide) ?_
  refine jz_callV1 (dk dt_X12_erase 17 rfl) vl_X12_237 rfl (T_X12_throwing (by decide) m H) m.1.1 rfl (by decide) (Nat.zero_le _) (Nat.zero_le _) (Nat.le_of_ble_eq_true rfl) (fun v_30 h_30 P_30 => ?_)
  obtain ⟨x_30, u_30, rfl, r_30, m_30, H⟩ := P_30
  dsimp only [rs]
  exact j_ireturn (dk dt_X12_erase 18 rfl) rfl rfl ⟨_, _, rfl, r_30, m_30, H⟩
def F_X12_erase_45  (u : Mu) (P : Int → Mu → Prop) : Prop :=
  F_X12_throwing 2 u (fun x_47 u_47 => P x_47 u_47)
theorem T_X12_erase_45  {u : Mu} {P : Int → Mu → Prop} {h : Hp} {g : Nat → Nat}  (m : Ms h g u)   (H : F_X12_erase_45 u P) : J mX12_erase 3 0 0 (nx (QMI g P)) 45 [some (vr (some (g 0))), none, none, none, none, none, none, none] [] h := by
  unfold F_X12_erase_45 at H
  refine j_aload_n (dk dt_X12_erase 25 rfl) rfl ?_
  refine j_iconst (v := Int32.ofInt 2) (dk dt_X12_erase 26 rfl) (by decide) ?_
  refine jz_callV1 (dk dt_X12_erase 27 rfl) vl_X12_237 rfl (T_X12_throwing (by decide) m H) m.1.1 rfl (by decide) (Nat.zero_le _) (Nat.zero_le _) (Nat.le_of_ble_eq_true rfl) (fun v_47 h_47 P_47 => ?_)
  obtain ⟨x_47, u_47, rfl, r_47, m_47, H⟩ := P_47
  dsimp only [rs]
  exact j_ireturn (dk dt_X12_erase 28 rfl) rfl rfl ⟨_, _, rfl, r_47, m_47, H⟩
def F_X12_erase_98  (x2 : Int) (x3 : Int) (x4 : Int) (x6 : Int) (x7 : Int) (s0 : Int) (s1 : Int) (u : Mu) (P : (Int × Int × Mu) ⊕ ((Int × Mu)) → Prop) : Prop :=
  F_X12_setCell x6 x7 0 u (fun u_107 => P (.inl (w32 (s0 + s1), w32 (x7 + 1), u_107)))
theorem T_X12_erase_98  {x2 : Int} {x3 : Int} {x4 : Int} {x6 : Int} {x7 : Int} {s0 : Int} {s1 : Int} {u : Mu} {P : (Int × Int × Mu) ⊕ ((Int × Mu)) → Prop} {h : Hp} {g : Nat → Nat} {post : Option Sv ⊕ String → Hp → Prop} (r_x2 : R32 x2) (r_x3 : R32 x3) (r_x4 : R32 x4) (r_x6 : R32 x6) (r_x7 : R32 x7) (r_s0 : R32 s0) (r_s1 : R32 s1) (m : Ms h g u)  (hl : ∀ (x5 : Int) (x7 : Int) (u : Mu) (h : Hp), P (.inl (x5, x7, u)) → Ms h g u → R32 x5 → R32 x7 → J mX12_erase 3 0 0 post 71 [some (vr (some (g 0))), none, some (ii (x2)), some (ii (x3)), some (ii (x4)), some (ii (x5)), some (ii (x6)), some (ii (x7))] [] h) (he0 : ∀ (x5 : Int) (u : Mu) (h : Hp), P (.inr (x5, u)) → Ms h g u → R32 x5 → J mX12_erase 3 0 0 post 116 [some (vr (some (g 0))), none, some (ii (x2)), some (ii (x3)), some (ii (x4)), some (ii (x5)), some (ii (x6)), none] [] h) (H : F_X12_erase_98 x2 x3 x4 x6 x7 s0 s1 u P) : J mX12_erase 3 0 0 (post) 98 [some (vr (some (g 0))), none, some (ii (x2)), some (ii (x3)), some (ii (x4)), none, some (ii (x6)), some (ii (x7))] [ii (s1), ii (s0)] h := by
  unfold F_X12_erase_98 at H
  refine jz_iadd (dk dt_X12_erase 54 rfl) ?_
  refine j_istore (dk dt_X12_erase 55 rfl) (by decide) ?_
  refine j_aload_n (dk dt_X12_erase 56 rfl) rfl ?_
  refine j_iload (dk dt_X12_erase 57 rfl) rfl ?_
  refine j_iload (dk dt_X12_erase 58 rfl) rfl ?_
  refine j_iconst (v := Int32.ofInt 0) (dk dt_X12_erase 59 rfl) (by decide) ?_
  refine jz_callV3 (dk dt_X12_erase 60 rfl) vl_X12_343 rfl (T_X12_setCell r_x6 r_x7 (by decide) m H) m.1.1 rfl (by decide) (Nat.zero_le _) (Nat.zero_le _) (Nat.le_of_ble_eq_true rfl) (fun v_107 h_107 P_107 => ?_)
  obtain ⟨u_107, rfl, m_107, H⟩ := P_107
  dsimp only [rs]
  refine jz_iinc (dk dt_X12_erase 61 rfl) rfl ?_
  refine j_goto 71 (dk dt_X12_erase 62 rfl) (by decide) ?_
  exact j_el (hl _ _ _ _ H m_107 (r32_w _) (r32_w _)) (And.intro rfl (And.intro rfl (And.intro rfl (And.intro rfl (And.intro rfl (And.intro rfl (And.intro rfl trivial)))))))
def L_X12_erase_71  (x2 : Int) (x3 : Int) (x4 : Int) (x5 : Int) (x6 : Int) (x7 : Int) (u : Mu) (P : (Int × Int × Mu) ⊕ ((Int × Mu)) → Prop) : Prop :=
  (if x4 < x7 then P (.inr (x5, u)) else F_X12_cellAt 40 x6 x7 u (fun x_87 => (if x_87 = 0 then F_X12_erase_98 x2 x3 x4 x6 x7 x5 0 u P else F_X12_erase_98 x2 x3 x4 x6 x7 x5 1 u P)))
theorem U_X12_erase_71  {x2 : Int} {x3 : Int} {x4 : Int} {x5 : Int} {x6 : Int} {x7 : Int} {u : Mu} {P : (Int × Int × Mu) ⊕ ((Int × Mu)) → Prop} {h : Hp} {g : Nat → Nat} {post : Option Sv ⊕ String → Hp → Prop} (r_x2 : R32 x2) (r_x3 : R32 x3) (r_x4 : R32 x4) (r_x5 : R32 x5) (r_x6 : R32 x6) (r_x7 : R32 x7) (m : Ms h g u)  (hl : ∀ (x5 : Int) (x7 : Int) (u : Mu) (h : Hp), P (.inl (x5, x7, u)) → Ms h g u → R32 x5 → R32 x7 → J mX12_erase 3 0 0 post 71 [some (vr (some (g 0))), none, some (ii (x2)), some (ii (x3)), some (ii (x4)), some (ii (x5)), some (ii (x6)), some (ii (x7))] [] h) (he0 : ∀ (x5 : Int) (u : Mu) (h : Hp), P (.inr (x5, u)) → Ms h g u → R32 x5 → J mX12_erase 3 0 0 post 116 [some (vr (some (g 0))), none, some (ii (x2)), some (ii (x3)), some (ii (x4)), some (ii (x5)), some (ii (x6)), none] [] h) (H : L_X12_erase_71 x2 x3 x4 x5 x6 x7 u P) : J mX12_erase 3 0 0 post 71 [some (vr (some (g 0))), none, some (ii (x2)), some (ii (x3)), some (ii (x4)), some (ii (x5)), some (ii (x6)), some (ii (x7))] [] h := by
  unfold L_X12_erase_71 at H
  refine j_iload (dk dt_X12_erase 41 rfl) rfl ?_
  refine j_iload (dk dt_X12_erase 42 rfl) rfl ?_
  refine jz_icmp_gt 116 (dk dt_X12_erase 43 rfl) (by decide) r_x7 r_x4 H (fun H => ?_) (fun H => ?_)
  · exact j_el (he0 _ _ _ H m r_x5) (And.intro rfl (And.intro rfl (And.intro rfl (And.intro rfl (And.intro rfl (And.intro rfl trivial))))))
  · refine j_iload (dk dt_X12_erase 44 rfl) rfl ?_
    refine j_aload_n (dk dt_X12_erase 45 rfl) rfl ?_
    refine j_bipush (v := Int32.ofInt 40) (dk dt_X12_erase 46 rfl) (by decide) ?_
    refine j_iload (dk dt_X12_erase 47 rfl) rfl ?_
    refine j_iload (dk dt_X12_erase 48 rfl) rfl ?_
    refine jz_callV3 (dk dt_X12_erase 49 rfl) vl_X12_812 rfl (T_X12_cellAt (by decide) r_x6 r_x7 m H) m.1.1 rfl (by decide) (Nat.zero_le _) (Nat.zero_le _) (Nat.le_of_ble_eq_true rfl) (fun v_87 h_87 P_87 => ?_)
    obtain ⟨x_87, rfl, r_87, rfl, H⟩ := P_87
    dsimp only [rs]
    refine jz_if_eq 97 (dk dt_X12_erase 50 rfl) (by decide) r_87 H (fun H => ?_) (fun H => ?_)
    · refine j_iconst (v := Int32.ofInt 0) (dk dt_X12_erase 53 rfl) (by decide) ?_
      exact j_el (T_X12_erase_98 r_x2 r_x3 r_x4 r_x6 r_x7 r_x5 (by decide) m  hl he0 H) (And.intro rfl (And.intro rfl (And.intro rfl (And.intro rfl (And.intro rfl (And.intro rfl trivial))))))
    · refine j_iconst (v := Int32.ofInt 1) (dk dt_X12_erase 51 rfl) (by decide) ?_
      refine j_goto 98 (dk dt_X12_erase 52 rfl) (by decide) ?_
      exact j_el (T_X12_erase_98 r_x2 r_x3 r_x4 r_x6 r_x7 r_x5 (by decide) m  hl he0 H) (And.intro rfl (And.intro rfl (And.intro rfl (And.intro rfl (And.intro rfl (And.intro rfl trivial))))))
def F_X12_erase_71  (x2 : Int) (x3 : Int) (x4 : Int) (x5 : Int) (x6 : Int) (x7 : Int) (u : Mu) (P : (Int × Int × Mu) ⊕ ((Int × Mu)) → Prop) : Prop :=
  lp (S := Int × Int × Mu) (E := (Int × Mu)) (fun q P_ => L_X12_erase_71 x2 x3 x4 q.1 x6 q.2.1 q.2.2 P_) (x5, x7, u) (fun e => match e with | (x5, u) => P (.inl (x5, w32 (x6 + 1), u)))
theorem T_X12_erase_71  {x2 : Int} {x3 : Int} {x4 : Int} {x5 : Int} {x6 : Int} {x7 : Int} {u : Mu} {P : (Int × Int × Mu) ⊕ ((Int × Mu)) → Prop} {h : Hp} {g : Nat → Nat} {post : Option Sv ⊕ String → Hp → Prop} (r_x2 : R32 x2) (r_x3 : R32 x3) (r_x4 : R32 x4) (r_x5 : R32 x5) (r_x6 : R32 x6) (r_x7 : R32 x7) (m : Ms h g u)  (hl : ∀ (x5 : Int) (x6 : Int) (u : Mu) (h : Hp), P (.inl (x5, x6, u)) → Ms h g u → R32 x5 → R32 x6 → J mX12_erase 3 0 0 post 62 [some (vr (some (g 0))), none, some (ii (x2)), some (ii (x3)), some (ii (x4)), some (ii (x5)), some (ii (x6)), none] [] h) (he0 : ∀ (x5 : Int) (u : Mu) (h : Hp), P (.inr (x5, u)) → Ms h g u → R32 x5 → J mX12_erase 3 0 0 post 122 [none, none, none, none, none, some (ii (x5)), none, none] [] h) (H : F_X12_erase_71 x2 x3 x4 x5 x6 x7 u P) : J mX12_erase 3 0 0 (post) 71 [some (vr (some (g 0))), none, some (ii (x2)), some (ii (x3)), some (ii (x4)), some (ii (x5)), some (ii (x6)), some (ii (x7))] [] h := by
  unfold F_X12_erase_71 at H
  refine lp_J (G := fun q => ∀ h : Hp, Ms h g (q.2.2) → R32 (q.1) → R32 (q.2.1) → J mX12_erase 3 0 0 (post) 71 [some (vr (some (g 0))), none, some (ii (x2)), some (ii (x3)), some (ii (x4)), some (ii ((q.1))), some (ii (x6)), some (ii ((q.2.1)))] [] h) (fun q P_ hl_ he_ Hb => ?_) (x5, x7, u) H _ m r_x5 r_x7
  obtain ⟨x5, x7, u⟩ := q
  intro h m r_x5 r_x7
  refine U_X12_erase_71 (P := P_) r_x2 r_x3 r_x4 r_x5 r_x6 r_x7 m  (fun x5 x7 u h Hp m r_x5 r_x7 => hl_ (x5, x7, u) Hp h m r_x5 r_x7) ?_ Hb
  · intro x5 u h Hp m r_x5
    have H := he_ _ Hp
    refine jz_iinc (dk dt_X12_erase 63 rfl) rfl ?_
    refine j_goto 62 (dk dt_X12_erase 64 rfl) (by decide) ?_
    exact j_el (hl _ _ _ _ H m r_x5 (r32_w _)) (And.intro rfl (And.intro rfl (And.intro rfl (And.intro rfl (And.intro rfl (And.intro rfl trivial))))))
def L_X12_erase_62  (x2 : Int) (x3 : Int) (x4 : Int) (x5 : Int) (x6 : Int) (u : Mu) (P : (Int × Int × Mu) ⊕ ((Int × Mu)) → Prop) : Prop :=
  (if x3 < x6 then P (.inr (x5, u)) else F_X12_erase_71 x2 x3 x4 x5 x6 x2 u P)
theorem U_X12_erase_62  {x2 : Int} {x3 : Int} {x4 : Int} {x5 : Int} {x6 : Int} {u : Mu} {P : (Int × Int × Mu) ⊕ ((Int × Mu)) → Prop} {h : Hp} {g : Nat → Nat} {post : Option Sv ⊕ String → Hp → Prop} (r_x2 : R32 x2) (r_x3 : R32 x3) (r_x4 : R32 x4) (r_x5 : R32 x5) (r_x6 : R32 x6) (m : Ms h g u)  (hl : ∀ (x5 : Int) (x6 : Int) (u : Mu) (h : Hp), P (.inl (x5, x6, u)) → Ms h g u → R32 x5 → R32 x6 → J mX12_erase 3 0 0 post 62 [some (vr (some (g 0))), none, some (ii (x2)), some (ii (x3)), some (ii (x4)), some (ii (x5)), some (ii (x6)), none] [] h) (he0 : ∀ (x5 : Int) (u : Mu) (h : Hp), P (.inr (x5, u)) → Ms h g u → R32 x5 → J mX12_erase 3 0 0 post 122 [none, none, none, none, none, some (ii (x5)), none, none] [] h) (H : L_X12_erase_62 x2 x3 x4 x5 x6 u P) : J mX12_erase 3 0 0 post 62 [some (vr (some (g 0))), none, some (ii (x2)), some (ii (x3)), some (ii (x4)), some (ii (x5)), some (ii (x6)), none] [] h := by
  unfold L_X12_erase_62 at H
  refine j_iload (dk dt_X12_erase 36 rfl) rfl ?_
  refine j_iload_n (dk dt_X12_erase 37 rfl) rfl ?_
  refine jz_icmp_gt 122 (dk dt_X12_erase 38 rfl) (by decide) r_x6 r_x3 H (fun H => ?_) (fun H => ?_)
  · exact j_el (he0 _ _ _ H m r_x5) (And.intro rfl trivial)
  · refine j_iload_n (dk dt_X12_erase 39 rfl) rfl ?_
    refine j_istore (dk dt_X12_erase 40 rfl) (by decide) ?_
    exact j_el (T_X12_erase_71 r_x2 r_x3 r_x4 r_x5 r_x6 r_x2 m  hl he0 H) (And.intro rfl (And.intro rfl (And.intro rfl (And.intro rfl (And.intro rfl (And.intro rfl (And.intro rfl trivial)))))))
def F_X12_erase_62  (x2 : Int) (x3 : Int) (x4 : Int) (x5 : Int) (x6 : Int) (u : Mu) (P : Int → Mu → Prop) : Prop :=
  lp (S := Int × Int × Mu) (E := (Int × Mu)) (fun q P_ => L_X12_erase_62 x2 x3 x4 q.1 q.2.1 q.2.2 P_) (x5, x6, u) (fun e => match e with | (x5, u) => P x5 u)
theorem T_X12_erase_62  {x2 : Int} {x3 : Int} {x4 : Int} {x5 : Int} {x6 : Int} {u : Mu} {P : Int → Mu → Prop} {h : Hp} {g : Nat → Nat} (r_x2 : R32 x2) (r_x3 : R32 x3) (r_x4 : R32 x4) (r_x5 : R32 x5) (r_x6 : R32 x6) (m : Ms h g u)   (H : F_X12_erase_62 x2 x3 x4 x5 x6 u P) : J mX12_erase 3 0 0 (nx (QMI g P)) 62 [some (vr (some (g 0))), none, some (ii (x2)), some (ii (x3)), some (ii (x4)), some (ii (x5)), some (ii (x6)), none] [] h := by
  unfold F_X12_erase_62 at H
  refine lp_J (G := fun q => ∀ h : Hp, Ms h g (q.2.2) → R32 (q.1) → R32 (q.2.1) → J mX12_erase 3 0 0 (nx (QMI g P)) 62 [some (vr (some (g 0))), none, some (ii (x2)), some (ii (x3)), some (ii (x4)), some (ii ((q.1))), some (ii ((q.2.1))), none] [] h) (fun q P_ hl_ he_ Hb => ?_) (x5, x6, u) H _ m r_x5 r_x6
  obtain ⟨x5, x6, u⟩ := q
  intro h m r_x5 r_x6
  refine U_X12_erase_62 (P := P_) r_x2 r_x3 r_x4 r_x5 r_x6 m  (fun x5 x6 u h Hp m r_x5 r_x6 => hl_ (x5, x6, u) Hp h m r_x5 r_x6) ?_ Hb
  · intro x5 u h Hp m r_x5
    have H := he_ _ Hp
    refine j_iload (dk dt_X12_erase 65 rfl) rfl ?_
    exact j_ireturn (dk dt_X12_erase 66 rfl) rfl rfl ⟨_, _, rfl, r_x5, m, H⟩
def F_X12_erase  (x1 : Int) (x2 : Int) (x3 : Int) (x4 : Int) (u : Mu) (P : Int → Mu → Prop) : Prop :=
  (∀ u_2, u_2 = uI u 0 0 0 → F_X12_isCell 40 x1 x2 u_2 (fun x_10 => (if x_10 = 0 then F_X12_erase_28 u_2 P else F_X12_isCell 40 x3 x4 u_2 (fun x_22 => (if x_22 = 0 then F_X12_erase_28 u_2 P else (if x3 < x1 then F_X12_erase_45 u_2 P else (if x2 ≤ x4 then F_X12_step u_2 (fun x_52 u_52 => F_X12_erase_62 x2 x3 x4 0 x1 u_52 P) else F_X12_erase_45 u_2 P)))))))
theorem T_X12_erase  {x1 : Int} {x2 : Int} {x3 : Int} {x4 : Int} {u : Mu} {P : Int → Mu → Prop} {h : Hp} {g : Nat → Nat} (r_x1 : R32 x1) (r_x2 : R32 x2) (r_x3 : R32 x3) (r_x4 : R32 x4) (m : Ms h g u)  (H : F_X12_erase x1 x2 x3 x4 u P) : Con mX12_erase 3 0 0 [vr (some (g 0)), ii (x1), ii (x2), ii (x3), ii (x4)] h (QMI g P) := by
  refine con_of rfl (Nat.le_of_ble_eq_true rfl) (by decide) ?_
  show J mX12_erase 3 0 0 _ 0 [some (vr (some (g 0))), some (ii (x1)), some (ii (x2)), some (ii (x3)), some (ii (x4)), none, none, none] [] h
  unfold F_X12_erase at H
  refine j_aload_n (dk dt_X12_erase 0 rfl) rfl ?_
  refine j_iconst (v := Int32.ofInt 0) (dk dt_X12_erase 1 rfl) (by decide) ?_
  refine jm_putI (kz := 0) (dk dt_X12_erase 2 rfl) fl_X12_202 rfl rfl rfl rfl m (by decide) (fun h_2 m_2 => ?_)
  replace H := H _ rfl
  refine j_aload_n (dk dt_X12_erase 3 rfl) rfl ?_
  refine j_bipush (v := Int32.ofInt 40) (dk dt_X12_erase 4 rfl) (by decide) ?_
  refine j_iload_n (dk dt_X12_erase 5 rfl) rfl ?_
  refine j_iload_n (dk dt_X12_erase 6 rfl) rfl ?_
  refine jz_callV3 (dk dt_X12_erase 7 rfl) vl_X12_321 rfl (T_X12_isCell (by decide) r_x1 r_x2 m_2 H) m_2.1.1 rfl (by decide) (Nat.zero_le _) (Nat.zero_le _) (Nat.le_of_ble_eq_true rfl) (fun v_10 h_10 P_10 => ?_)
  obtain ⟨x_10, rfl, r_10, rfl, H⟩ := P_10
  dsimp only [rs]
  refine jz_if_eq 28 (dk dt_X12_erase 8 rfl) (by decide) r_10 H (fun H => ?_) (fun H => ?_)
  · exact j_el (T_X12_erase_28  m_2   H) (And.intro rfl trivial)
  · refine j_aload_n (dk dt_X12_erase 9 rfl) rfl ?_
    refine j_bipush (v := Int32.ofInt 40) (dk dt_X12_erase 10 rfl) (by decide) ?_
    refine j_iload_n (dk dt_X12_erase 11 rfl) rfl ?_
    refine j_iload (dk dt_X12_erase 12 rfl) rfl ?_
    refine jz_callV3 (dk dt_X12_erase 13 rfl) vl_X12_321 rfl (T_X12_isCell (by decide) r_x3 r_x4 m_2 H) m_2.1.1 rfl (by decide) (Nat.zero_le _) (Nat.zero_le _) (Nat.le_of_ble_eq_true rfl) (fun v_22 h_22 P_22 => ?_)
    obtain ⟨x_22, rfl, r_22, rfl, H⟩ := P_22
    dsimp only [rs]
    refine jz_if_ne 34 (dk dt_X12_erase 14 rfl) (by decide) r_22 H (fun H => ?_) (fun H => ?_)
    · exact j_el (T_X12_erase_28  m_2   H) (And.intro rfl trivial)
    · refine j_iload_n (dk dt_X12_erase 19 rfl) rfl ?_
      refine j_iload_n (dk dt_X12_erase 20 rfl) rfl ?_
      refine jz_icmp_lt 45 (dk dt_X12_erase 21 rfl) (by decide) r_x3 r_x1 H (fun H => ?_) (fun H => ?_)
      · exact j_el (T_X12_erase_45  m_2   H) (And.intro rfl trivial)
      · refine j_iload (dk dt_X12_erase 22 rfl) rfl ?_
        refine j_iload_n (dk dt_X12_erase 23 rfl) rfl ?_
        refine jz_icmp_ge 51 (dk dt_X12_erase 24 rfl) (by decide) r_x4 r_x2 H (fun H => ?_) (fun H => ?_)
        · refine j_aload_n (dk dt_X12_erase 29 rfl) rfl ?_
          refine jz_callV0 (dk dt_X12_erase 30 rfl) vl_X12_340 rfl (T_X12_step m_2 H) m_2.1.1 rfl (by decide) (Nat.zero_le _) (Nat.zero_le _) (Nat.le_of_ble_eq_true rfl) (fun v_52 h_52 P_52 => ?_)
          obtain ⟨x_52, u_52, rfl, r_52, m_52, H⟩ := P_52
          dsimp only [rs]
          refine j_pop (dk dt_X12_erase 31 rfl) rfl ?_
          refine j_iconst (v := Int32.ofInt 0) (dk dt_X12_erase 32 rfl) (by decide) ?_
          refine j_istore (dk dt_X12_erase 33 rfl) (by decide) ?_
          refine j_iload_n (dk dt_X12_erase 34 rfl) rfl ?_
          refine j_istore (dk dt_X12_erase 35 rfl) (by decide) ?_
          exact j_el (T_X12_erase_62 r_x2 r_x3 r_x4 (by decide) r_x1 m_52   H) (And.intro rfl (And.intro rfl (And.intro rfl (And.intro rfl (And.intro rfl (And.intro rfl trivial))))))
        · exact j_el (T_X12_erase_45  m_2   H) (And.intro rfl trivial)
def F_X12_fault_29  (s0 : Int) (u : Mu) (P : Int → Mu → Prop) : Prop :=
  P s0 u
theorem T_X12_fault_29  {s0 : Int} {u : Mu} {P : Int → Mu → Prop} {h : Hp} {g : Nat → Nat} (r_s0 : R32 s0) (m : Ms h g u)   (H : F_X12_fault_29 s0 u P) : J mX12_fault 1 0 0 (nx (QMI g P)) 29 [none, none] [ii (s0)] h := by
  unfold F_X12_fault_29 at H
  exact j_ireturn (dk dt_X12_fault 15 rfl) rfl rfl ⟨_, _, rfl, r_s0, m, H⟩
def F_X12_fault  (x1 : Int) (u : Mu) (P : Int → Mu → Prop) : Prop :=
  (∀ u_2, u_2 = uI u 0 0 0 → (if x1 = 0 then F_X12_fault_29 (mI u_2 0 41) u_2 P else (if x1 = 1 then F_X12_fault_29 (mI u_2 0 42) u_2 P else F_X12_fault_29 (-1) u_2 P)))
theorem T_X12_fault  {x1 : Int} {u : Mu} {P : Int → Mu → Prop} {h : Hp} {g : Nat → Nat} (r_x1 : R32 x1) (m : Ms h g u)  (H : F_X12_fault x1 u P) : Con mX12_fault 1 0 0 [vr (some (g 0)), ii (x1)] h (QMI g P) := by
  refine con_of rfl (Nat.le_of_ble_eq_true rfl) (by decide) ?_
  show J mX12_fault 1 0 0 _ 0 [some (vr (some (g 0))), some (ii (x1))] [] h
  unfold F_X12_fault at H
  refine j_aload_n (dk dt_X12_fault 0 rfl) rfl ?_
  refine j_iconst (v := Int32.ofInt 0) (dk dt_X12_fault 1 rfl) (by decide) ?_
  refine jm_putI (kz := 0) (dk dt_X12_fault 2 rfl) fl_X12_202 rfl rfl rfl rfl m (by decide) (fun h_2 m_2 => ?_)
  replace H := H _ rfl
  refine j_iload_n (dk dt_X12_fault 3 rfl) rfl ?_
  refine jz_if_ne 16 (dk dt_X12_fault 4 rfl) (by decide) r_x1 H (fun H => ?_) (fun H => ?_)
  · refine j_aload_n (dk dt_X12_fault 5 rfl) rfl ?_
    refine jm_getI (kz := 41) (dk dt_X12_fault 6 rfl) fl_X12_277 rfl rfl m_2 ?_
    refine j_goto 29 (dk dt_X12_fault 7 rfl) (by decide) ?_
    exact j_el (T_X12_fault_29 (m_2.2.1.1 _ _) m_2   H) trivial
  · refine j_iload_n (dk dt_X12_fault 8 rfl) rfl ?_
    refine j_iconst (v := Int32.ofInt 1) (dk dt_X12_fault 9 rfl) (by decide) ?_
    refine jz_icmp_ne 28 (dk dt_X12_fault 10 rfl) (by decide) r_x1 (by decide) H (fun H => ?_) (fun H => ?_)
    · refine j_aload_n (dk dt_X12_fault 11 rfl) rfl ?_
      refine jm_getI (kz := 42) (dk dt_X12_fault 12 rfl) fl_X12_280 rfl rfl m_2 ?_
      refine j_goto 29 (dk dt_X12_fault 13 rfl) (by decide) ?_
      exact j_el (T_X12_fault_29 (m_2.2.1.1 _ _) m_2   H) trivial
    · refine j_iconst (v := Int32.ofInt (-1)) (dk dt_X12_fault 14 rfl) (by decide) ?_
      exact j_el (T_X12_fault_29 (by decide) m_2   H) trivial
def F_X12_feed_76  (x1 : Int) (x2 : Int) (x3 : Int) (x4 : Int) (x5 : Int) (x6 : Int) (s0 : Int) (u : Mu) (P : (Int × Mu) ⊕ ((Mu)) → Prop) : Prop :=
  (0 ≤ w32 (mI u 0 40 + x6) ∧ w32 (mI u 0 40 + x6) < 400 ∧ (∀ u_106, u_106 = uI u 39 (w32 (mI u 0 40 + x6)) (bAnd (bShr s0 (w32 (24 - (w32 (8 * (bAnd x6 3)))))) 255) → P (.inl (w32 (x6 + 1), u_106))))
theorem T_X12_feed_76  {x1 : Int} {x2 : Int} {x3 : Int} {x4 : Int} {x5 : Int} {x6 : Int} {s0 : Int} {u : Mu} {P : (Int × Mu) ⊕ ((Mu)) → Prop} {h : Hp} {g : Nat → Nat} {post : Option Sv ⊕ String → Hp → Prop} (r_x1 : R32 x1) (r_x2 : R32 x2) (r_x3 : R32 x3) (r_x4 : R32 x4) (r_x5 : R32 x5) (r_x6 : R32 x6) (r_s0 : R32 s0) (m : Ms h g u)  (hl : ∀ (x6 : Int) (u : Mu) (h : Hp), P (.inl (x6, u)) → Ms h g u → R32 x6 → J mX12_feed 1 0 0 post 23 [some (vr (some (g 0))), some (ii (x1)), some (ii (x2)), some (ii (x3)), some (ii (x4)), some (ii (x5)), some (ii (x6)), none] [] h) (he0 : ∀ (u : Mu) (h : Hp), P (.inr u) → Ms h g u → J mX12_feed 1 0 0 post 113 [some (vr (some (g 0))), none, none, none, none, none, none, none] [] h) (H : F_X12_feed_76 x1 x2 x3 x4 x5 x6 s0 u P) : J mX12_feed 1 0 0 (post) 76 [some (vr (some (g 0))), some (ii (x1)), some (ii (x2)), some (ii (x3)), some (ii (x4)), some (ii (x5)), some (ii (x6)), none] [ii (s0)] h := by
  unfold F_X12_feed_76 at H
  refine j_istore (dk dt_X12_feed 37 rfl) (by decide) ?_
  refine j_aload_n (dk dt_X12_feed 38 rfl) rfl ?_
  refine jm_getA (dk dt_X12_feed 39 rfl) fl_X12_106 rfl (c := 14) rfl m ?_
  refine j_aload_n (dk dt_X12_feed 40 rfl) rfl ?_
  refine jm_getI (kz := 40) (dk dt_X12_feed 41 rfl) fl_X12_258 rfl rfl m ?_
  refine j_iload (dk dt_X12_feed 42 rfl) rfl ?_
  refine jz_iadd (dk dt_X12_feed 43 rfl) ?_
  refine j_iload (dk dt_X12_feed 44 rfl) rfl ?_
  refine j_bipush (v := Int32.ofInt 24) (dk dt_X12_feed 45 rfl) (by decide) ?_
  refine j_bipush (v := Int32.ofInt 8) (dk dt_X12_feed 46 rfl) (by decide) ?_
  refine j_iload (dk dt_X12_feed 47 rfl) rfl ?_
  refine j_iconst (v := Int32.ofInt 3) (dk dt_X12_feed 48 rfl) (by decide) ?_
  refine jz_iand (dk dt_X12_feed 49 rfl) ?_
  refine jz_imul (dk dt_X12_feed 50 rfl) ?_
  refine jz_isub (dk dt_X12_feed 51 rfl) ?_
  refine jz_ishr (dk dt_X12_feed 52 rfl) ?_
  refine j_sipush (v := Int32.ofInt 255) (dk dt_X12_feed 53 rfl) (by decide) ?_
  refine jz_iand (dk dt_X12_feed 54 rfl) ?_
  obtain ⟨p_106, q_106, H⟩ := H
  refine jm_iast (dk dt_X12_feed 55 rfl) rfl rfl m p_106 q_106 (r32_t _) (fun h_106 m_106 => ?_)
  replace H := H _ rfl
  refine jz_iinc (dk dt_X12_feed 56 rfl) rfl ?_
  refine j_goto 23 (dk dt_X12_feed 57 rfl) (by decide) ?_
  exact j_el (hl _ _ _ H m_106 (r32_w _)) (And.intro rfl (And.intro rfl (And.intro rfl (And.intro rfl (And.intro rfl (And.intro rfl (And.intro rfl trivial)))))))
def L_X12_feed_23  (x1 : Int) (x2 : Int) (x3 : Int) (x4 : Int) (x5 : Int) (x6 : Int) (u : Mu) (P : (Int × Mu) ⊕ ((Mu)) → Prop) : Prop :=
  (if 20 ≤ x6 then P (.inr u) else (if 4 ≤ x6 then (if 8 ≤ x6 then (if 12 ≤ x6 then (if 16 ≤ x6 then F_X12_feed_76 x1 x2 x3 x4 x5 x6 x5 u P else F_X12_feed_76 x1 x2 x3 x4 x5 x6 x4 u P) else F_X12_feed_76 x1 x2 x3 x4 x5 x6 x3 u P) else F_X12_feed_76 x1 x2 x3 x4 x5 x6 x2 u P) else F_X12_feed_76 x1 x2 x3 x4 x5 x6 x1 u P))
theorem U_X12_feed_23  {x1 : Int} {x2 : Int} {x3 : Int} {x4 : Int} {x5 : Int} {x6 : Int} {u : Mu} {P : (Int × Mu) ⊕ ((Mu)) → Prop} {h : Hp} {g : Nat → Nat} {post : Option Sv ⊕ String → Hp → Prop} (r_x1 : R32 x1) (r_x2 : R32 x2) (r_x3 : R32 x3) (r_x4 : R32 x4) (r_x5 : R32 x5) (r_x6 : R32 x6) (m : Ms h g u)  (hl : ∀ (x6 : Int) (u : Mu) (h : Hp), P (.inl (x6, u)) → Ms h g u → R32 x6 → J mX12_feed 1 0 0 post 23 [some (vr (some (g 0))), some (ii (x1)), some (ii (x2)), some (ii (x3)), some (ii (x4)), some (ii (x5)), some (ii (x6)), none] [] h) (he0 : ∀ (u : Mu) (h : Hp), P (.inr u) → Ms h g u → J mX12_feed 1 0 0 post 113 [some (vr (some (g 0))), none, none, none, none, none, none, none] [] h) (H : L_X12_feed_23 x1 x2 x3 x4 x5 x6 u P) : J mX12_feed 1 0 0 post 23 [some (vr (some (g 0))), some (ii (x1)), some (ii (x2)), some (ii (x3)), some (ii (x4)), some (ii (x5)), some (ii (x6)), none] [] h := by
  unfold L_X12_feed_23 at H
  refine j_iload (dk dt_X12_feed 13 rfl) rfl ?_
  refine j_bipush (v := Int32.ofInt 20) (dk dt_X12_feed 14 rfl) (by decide) ?_
  refine jz_icmp_ge 113 (dk dt_X12_feed 15 rfl) (by decide) r_x6 (by decide) H (fun H => ?_) (fun H => ?_)
  · exact j_el (he0 _ _ H m) (And.intro rfl trivial)
  · refine j_iload (dk dt_X12_feed 16 rfl) rfl ?_
    refine j_iconst (v := Int32.ofInt 4) (dk dt_X12_feed 17 rfl) (by decide) ?_
    refine jz_icmp_ge 40 (dk dt_X12_feed 18 rfl) (by decide) r_x6 (by decide) H (fun H => ?_) (fun H => ?_)
    · refine j_iload (dk dt_X12_feed 21 rfl) rfl ?_
      refine j_bipush (v := Int32.ofInt 8) (dk dt_X12_feed 22 rfl) (by decide) ?_
      refine jz_icmp_ge 51 (dk dt_X12_feed 23 rfl) (by decide) r_x6 (by decide) H (fun H => ?_) (fun H => ?_)
      · refine j_iload (dk dt_X12_feed 26 rfl) rfl ?_
        refine j_bipush (v := Int32.ofInt 12) (dk dt_X12_feed 27 rfl) (by decide) ?_
        refine jz_icmp_ge 62 (dk dt_X12_feed 28 rfl) (by decide) r_x6 (by decide) H (fun H => ?_) (fun H => ?_)
        · refine j_iload (dk dt_X12_feed 31 rfl) rfl ?_
          refine j_bipush (v := Int32.ofInt 16) (dk dt_X12_feed 32 rfl) (by decide) ?_
          refine jz_icmp_ge 74 (dk dt_X12_feed 33 rfl) (by decide) r_x6 (by decide) H (fun H => ?_) (fun H => ?_)
          · refine j_iload (dk dt_X12_feed 36 rfl) rfl ?_
            exact j_el (T_X12_feed_76 r_x1 r_x2 r_x3 r_x4 r_x5 r_x6 r_x5 m  hl he0 H) (And.intro rfl (And.intro rfl (And.intro rfl (And.intro rfl (And.intro rfl (And.intro rfl (And.intro rfl trivial)))))))
          · refine j_iload (dk dt_X12_feed 34 rfl) rfl ?_
            refine j_goto 76 (dk dt_X12_feed 35 rfl) (by decide) ?_
            exact j_el (T_X12_feed_76 r_x1 r_x2 r_x3 r_x4 r_x5 r_x6 r_x4 m  hl he0 H) (And.intro rfl (And.intro rfl (And.intro rfl (And.intro rfl (And.intro rfl (And.intro rfl (And.intro rfl trivial)))))))
        · refine j_iload_n (dk dt_X12_feed 29 rfl) rfl ?_
          refine j_goto 76 (dk dt_X12_feed 30 rfl) (by decide) ?_
          exact j_el (T_X12_feed_76 r_x1 r_x2 r_x3 r_x4 r_x5 r_x6 r_x3 m  hl he0 H) (And.intro rfl (And.intro rfl (And.intro rfl (And.intro rfl (And.intro rfl (And.intro rfl (And.intro rfl trivial)))))))
      · refine j_iload_n (dk dt_X12_feed 24 rfl) rfl ?_
        refine j_goto 76 (dk dt_X12_feed 25 rfl) (by decide) ?_
        exact j_el (T_X12_feed_76 r_x1 r_x2 r_x3 r_x4 r_x5 r_x6 r_x2 m  hl he0 H) (And.intro rfl (And.intro rfl (And.intro rfl (And.intro rfl (And.intro rfl (And.intro rfl (And.intro rfl trivial)))))))
    · refine j_iload_n (dk dt_X12_feed 19 rfl) rfl ?_
      refine j_goto 76 (dk dt_X12_feed 20 rfl) (by decide) ?_
      exact j_el (T_X12_feed_76 r_x1 r_x2 r_x3 r_x4 r_x5 r_x6 r_x1 m  hl he0 H) (And.intro rfl (And.intro rfl (And.intro rfl (And.intro rfl (And.intro rfl (And.intro rfl (And.intro rfl trivial)))))))
def F_X12_feed_23  (x1 : Int) (x2 : Int) (x3 : Int) (x4 : Int) (x5 : Int) (x6 : Int) (u : Mu) (P : Int → Mu → Prop) : Prop :=
  lp (S := Int × Mu) (E := (Mu)) (fun q P_ => L_X12_feed_23 x1 x2 x3 x4 x5 q.1 q.2 P_) (x6, u) (fun (u : Mu) => (∀ u_121, u_121 = uI u 0 40 (w32 (mI u 0 40 + 20)) → P (mI u_121 0 40) u_121))
theorem T_X12_feed_23  {x1 : Int} {x2 : Int} {x3 : Int} {x4 : Int} {x5 : Int} {x6 : Int} {u : Mu} {P : Int → Mu → Prop} {h : Hp} {g : Nat → Nat} (r_x1 : R32 x1) (r_x2 : R32 x2) (r_x3 : R32 x3) (r_x4 : R32 x4) (r_x5 : R32 x5) (r_x6 : R32 x6) (m : Ms h g u)   (H : F_X12_feed_23 x1 x2 x3 x4 x5 x6 u P) : J mX12_feed 1 0 0 (nx (QMI g P)) 23 [some (vr (some (g 0))), some (ii (x1)), some (ii (x2)), some (ii (x3)), some (ii (x4)), some (ii (x5)), some (ii (x6)), none] [] h := by
  unfold F_X12_feed_23 at H
  refine lp_J (G := fun q => ∀ h : Hp, Ms h g (q.2) → R32 (q.1) → J mX12_feed 1 0 0 (nx (QMI g P)) 23 [some (vr (some (g 0))), some (ii (x1)), some (ii (x2)), some (ii (x3)), some (ii (x4)), some (ii (x5)), some (ii ((q.1))), none] [] h) (fun q P_ hl_ he_ Hb => ?_) (x6, u) H _ m r_x6
  obtain ⟨x6, u⟩ := q
  intro h m r_x6
  refine U_X12_feed_23 (P := P_) r_x1 r_x2 r_x3 r_x4 r_x5 r_x6 m  (fun x6 u h Hp m r_x6 => hl_ (x6, u) Hp h m r_x6) ?_ Hb
  · intro u h Hp m
    have H := he_ _ Hp
    refine j_aload_n (dk dt_X12_feed 58 rfl) rfl ?_
    refine j_aload_n (dk dt_X12_feed 59 rfl) rfl ?_
    refine jm_getI (kz := 40) (dk dt_X12_feed 60 rfl) fl_X12_258 rfl rfl m ?_
    refine j_bipush (v := Int32.ofInt 20) (dk dt_X12_feed 61 rfl) (by decide) ?_
    refine jz_iadd (dk dt_X12_feed 62 rfl) ?_
    refine jm_putI (kz := 40) (dk dt_X12_feed 63 rfl) fl_X12_258 rfl rfl rfl rfl m (r32_w _) (fun h_121 m_121 => ?_)
    replace H := H _ rfl
    refine j_aload_n (dk dt_X12_feed 64 rfl) rfl ?_
    refine jm_getI (kz := 40) (dk dt_X12_feed 65 rfl) fl_X12_258 rfl rfl m_121 ?_
    exact j_ireturn (dk dt_X12_feed 66 rfl) rfl rfl ⟨_, _, rfl, (m_121.2.1.1 _ _), m_121, H⟩
def F_X12_feed  (x1 : Int) (x2 : Int) (x3 : Int) (x4 : Int) (x5 : Int) (u : Mu) (P : Int → Mu → Prop) : Prop :=
  (∀ u_2, u_2 = uI u 0 0 0 → (if w32 (mI u_2 0 40 + 20) ≤ 400 then F_X12_feed_23 x1 x2 x3 x4 x5 0 u_2 P else P (-1) u_2))
theorem T_X12_feed  {x1 : Int} {x2 : Int} {x3 : Int} {x4 : Int} {x5 : Int} {u : Mu} {P : Int → Mu → Prop} {h : Hp} {g : Nat → Nat} (r_x1 : R32 x1) (r_x2 : R32 x2) (r_x3 : R32 x3) (r_x4 : R32 x4) (r_x5 : R32 x5) (m : Ms h g u)  (H : F_X12_feed x1 x2 x3 x4 x5 u P) : Con mX12_feed 1 0 0 [vr (some (g 0)), ii (x1), ii (x2), ii (x3), ii (x4), ii (x5)] h (QMI g P) := by
  refine con_of rfl (Nat.le_of_ble_eq_true rfl) (by decide) ?_
  show J mX12_feed 1 0 0 _ 0 [some (vr (some (g 0))), some (ii (x1)), some (ii (x2)), some (ii (x3)), some (ii (x4)), some (ii (x5)), none, none] [] h
  unfold F_X12_feed at H
  refine j_aload_n (dk dt_X12_feed 0 rfl) rfl ?_
  refine j_iconst (v := Int32.ofInt 0) (dk dt_X12_feed 1 rfl) (by decide) ?_
  refine jm_putI (kz := 0) (dk dt_X12_feed 2 rfl) fl_X12_202 rfl rfl rfl rfl m (by decide) (fun h_2 m_2 => ?_)
  replace H := H _ rfl
  refine j_aload_n (dk dt_X12_feed 3 rfl) rfl ?_
  refine jm_getI (kz := 40) (dk dt_X12_feed 4 rfl) fl_X12_258 rfl rfl m_2 ?_
  refine j_bipush (v := Int32.ofInt 20) (dk dt_X12_feed 5 rfl) (by decide) ?_
  refine jz_iadd (dk dt_X12_feed 6 rfl) ?_
  refine j_sipush (v := Int32.ofInt 400) (dk dt_X12_feed 7 rfl) (by decide) ?_
  refine jz_icmp_le 20 (dk dt_X12_feed 8 rfl) (by decide) (r32_w _) (by decide) H (fun H => ?_) (fun H => ?_)
  · refine j_iconst (v := Int32.ofInt 0) (dk dt_X12_feed 11 rfl) (by decide) ?_
    refine j_istore (dk dt_X12_feed 12 rfl) (by decide) ?_
    exact j_el (T_X12_feed_23 r_x1 r_x2 r_x3 r_x4 r_x5 (by decide) m_2   H) (And.intro rfl (And.intro rfl (And.intro rfl (And.intro rfl (And.intro rfl (And.intro rfl (And.intro rfl trivial)))))))
  · refine j_iconst (v := Int32.ofInt (-1)) (dk dt_X12_feed 9 rfl) (by decide) ?_
    exact j_ireturn (dk dt_X12_feed 10 rfl) rfl rfl ⟨_, _, rfl, (by decide), m_2, H⟩
def L_X12_store_52  (x1 : Int) (x2 : Int) (x3 : Int) (u : Mu) (P : (Int × Mu) ⊕ ((Mu)) → Prop) : Prop :=
  (if 24 ≤ x3 then P (.inr u) else (0 ≤ w32 (w32 (24 * x1) + x3) ∧ w32 (w32 (24 * x1) + x3) < 4800 ∧ (0 ≤ w32 (w32 (24 * x2) + x3) ∧ w32 (w32 (24 * x2) + x3) < 314880 ∧ (∀ u_79, u_79 = uI u 63 (w32 (w32 (24 * x2) + x3)) (mI u 69 (w32 (w32 (24 * x1) + x3))) → P (.inl (w32 (x3 + 1), u_79))))))
theorem U_X12_store_52  {x1 : Int} {x2 : Int} {x3 : Int} {u : Mu} {P : (Int × Mu) ⊕ ((Mu)) → Prop} {h : Hp} {g : Nat → Nat} {post : Option Sv ⊕ String → Hp → Prop} (r_x1 : R32 x1) (r_x2 : R32 x2) (r_x3 : R32 x3) (m : Ms h g u)  (hl : ∀ (x3 : Int) (u : Mu) (h : Hp), P (.inl (x3, u)) → Ms h g u → R32 x3 → J mX12_store 1 0 0 post 52 [some (vr (some (g 0))), some (ii (x1)), some (ii (x2)), some (ii (x3))] [] h) (he0 : ∀ (u : Mu) (h : Hp), P (.inr u) → Ms h g u → J mX12_store 1 0 0 post 86 [none, none, none, none] [] h) (H : L_X12_store_52 x1 x2 x3 u P) : J mX12_store 1 0 0 post 52 [some (vr (some (g 0))), some (ii (x1)), some (ii (x2)), some (ii (x3))] [] h := by
  unfold L_X12_store_52 at H
  refine j_iload_n (dk dt_X12_store 34 rfl) rfl ?_
  refine j_bipush (v := Int32.ofInt 24) (dk dt_X12_store 35 rfl) (by decide) ?_
  refine jz_icmp_ge 86 (dk dt_X12_store 36 rfl) (by decide) r_x3 (by decide) H (fun H => ?_) (fun H => ?_)
  · exact j_el (he0 _ _ H m) trivial
  · refine j_aload_n (dk dt_X12_store 37 rfl) rfl ?_
    refine jm_getA (dk dt_X12_store 38 rfl) fl_X12_119 rfl (c := 13) rfl m ?_
    refine j_bipush (v := Int32.ofInt 24) (dk dt_X12_store 39 rfl) (by decide) ?_
    refine j_iload_n (dk dt_X12_store 40 rfl) rfl ?_
    refine jz_imul (dk dt_X12_store 41 rfl) ?_
    refine j_iload_n (dk dt_X12_store 42 rfl) rfl ?_
    refine jz_iadd (dk dt_X12_store 43 rfl) ?_
    refine j_aload_n (dk dt_X12_store 44 rfl) rfl ?_
    refine jm_getA (dk dt_X12_store 45 rfl) fl_X12_135 rfl (c := 13) rfl m ?_
    refine j_bipush (v := Int32.ofInt 24) (dk dt_X12_store 46 rfl) (by decide) ?_
    refine j_iload_n (dk dt_X12_store 47 rfl) rfl ?_
    refine jz_imul (dk dt_X12_store 48 rfl) ?_
    refine j_iload_n (dk dt_X12_store 49 rfl) rfl ?_
    refine jz_iadd (dk dt_X12_store 50 rfl) ?_
    obtain ⟨p_78, q_78, H⟩ := H
    refine jm_bald (dk dt_X12_store 51 rfl) rfl rfl m p_78 q_78 ?_
    obtain ⟨p_79, q_79, H⟩ := H
    refine jm_bast (dk dt_X12_store 52 rfl) rfl rfl m p_79 q_79 (m.2.1.2.2.1 _ _ rfl) (fun h_79 m_79 => ?_)
    replace H := H _ rfl
    refine jz_iinc (dk dt_X12_store 53 rfl) rfl ?_
    refine j_goto 52 (dk dt_X12_store 54 rfl) (by decide) ?_
    exact j_el (hl _ _ _ H m_79 (r32_w _)) (And.intro rfl (And.intro rfl (And.intro rfl (And.intro rfl trivial))))
def F_X12_store_52  (x1 : Int) (x2 : Int) (x3 : Int) (u : Mu) (P : Mu → Prop) : Prop :=
  lp (S := Int × Mu) (E := (Mu)) (fun q P_ => L_X12_store_52 x1 x2 q.1 q.2 P_) (x3, u) (fun (u : Mu) => P u)
theorem T_X12_store_52  {x1 : Int} {x2 : Int} {x3 : Int} {u : Mu} {P : Mu → Prop} {h : Hp} {g : Nat → Nat} (r_x1 : R32 x1) (r_x2 : R32 x2) (r_x3 : R32 x3) (m : Ms h g u)   (H : F_X12_store_52 x1 x2 x3 u P) : J mX12_store 1 0 0 (nx (QMV g P)) 52 [some (vr (some (g 0))), some (ii (x1)), some (ii (x2)), some (ii (x3))] [] h := by
  unfold F_X12_store_52 at H
  refine lp_J (G := fun q => ∀ h : Hp, Ms h g (q.2) → R32 (q.1) → J mX12_store 1 0 0 (nx (QMV g P)) 52 [some (vr (some (g 0))), some (ii (x1)), some (ii (x2)), some (ii ((q.1)))] [] h) (fun q P_ hl_ he_ Hb => ?_) (x3, u) H _ m r_x3
  obtain ⟨x3, u⟩ := q
  intro h m r_x3
  refine U_X12_store_52 (P := P_) r_x1 r_x2 r_x3 m  (fun x3 u h Hp m r_x3 => hl_ (x3, u) Hp h m r_x3) ?_ Hb
  · intro u h Hp m
    have H := he_ _ Hp
    exact j_return (dk dt_X12_store 55 rfl) rfl ⟨_, rfl, m, H⟩
def F_X12_store_49  (x1 : Int) (x2 : Int) (s1 : Int) (s2 : Int) (u : Mu) (P : Mu → Prop) : Prop :=
  (0 ≤ s1 ∧ s1 < 13120 ∧ (∀ u_49, u_49 = uI u 62 s1 s2 → F_X12_store_52 x1 x2 0 u_49 P))
theorem T_X12_store_49  {x1 : Int} {x2 : Int} {s1 : Int} {s2 : Int} {u : Mu} {P : Mu → Prop} {h : Hp} {g : Nat → Nat} (r_x1 : R32 x1) (r_x2 : R32 x2) (r_s1 : R32 s1) (r_s2 : R32 s2) (m : Ms h g u)   (H : F_X12_store_49 x1 x2 s1 s2 u P) : J mX12_store 1 0 0 (nx (QMV g P)) 49 [some (vr (some (g 0))), some (ii (x1)), some (ii (x2)), none] [ii (s2), ii (s1), vr (some (g (62)))] h := by
  unfold F_X12_store_49 at H
  obtain ⟨p_49, q_49, H⟩ := H
  refine jm_iast (dk dt_X12_store 31 rfl) rfl rfl m p_49 q_49 r_s2 (fun h_49 m_49 => ?_)
  replace H := H _ rfl
  refine j_iconst (v := Int32.ofInt 0) (dk dt_X12_store 32 rfl) (by decide) ?_
  refine j_istore_n (dk dt_X12_store 33 rfl) (by decide) ?_
  exact j_el (T_X12_store_52 r_x1 r_x2 (by decide) m_49   H) (And.intro rfl (And.intro rfl (And.intro rfl (And.intro rfl trivial))))
def F_X12_store  (x1 : Int) (x2 : Int) (u : Mu) (P : Mu → Prop) : Prop :=
  (0 ≤ x1 ∧ x1 < 200 ∧ (0 ≤ x2 ∧ x2 < 13120 ∧ (∀ u_11, u_11 = uI u 60 x2 (mI u 66 x1) → (0 ≤ x1 ∧ x1 < 200 ∧ (0 ≤ x2 ∧ x2 < 13120 ∧ (∀ u_23, u_23 = uG u_11 61 x2 (mG u_11 67 x1) → (if mI u_23 66 x1 = 2 then (0 ≤ x1 ∧ x1 < 200 ∧ F_X12_store_49 x1 x2 x2 (mI u_23 68 x1) u_23 P) else F_X12_store_49 x1 x2 x2 0 u_23 P)))))))
theorem T_X12_store  {x1 : Int} {x2 : Int} {u : Mu} {P : Mu → Prop} {h : Hp} {g : Nat → Nat} (r_x1 : R32 x1) (r_x2 : R32 x2) (m : Ms h g u)  (H : F_X12_store x1 x2 u P) : Con mX12_store 1 0 0 [vr (some (g 0)), ii (x1), ii (x2)] h (QMV g P) := by
  refine con_of rfl (Nat.le_of_ble_eq_true rfl) (by decide) ?_
  show J mX12_store 1 0 0 _ 0 [some (vr (some (g 0))), some (ii (x1)), some (ii (x2)), none] [] h
  unfold F_X12_store at H
  refine j_aload_n (dk dt_X12_store 0 rfl) rfl ?_
  refine jm_getA (dk dt_X12_store 1 rfl) fl_X12_109 rfl (c := 14) rfl m ?_
  refine j_iload_n (dk dt_X12_store 2 rfl) rfl ?_
  refine j_aload_n (dk dt_X12_store 3 rfl) rfl ?_
  refine jm_getA (dk dt_X12_store 4 rfl) fl_X12_126 rfl (c := 14) rfl m ?_
  refine j_iload_n (dk dt_X12_store 5 rfl) rfl ?_
  obtain ⟨p_10, q_10, H⟩ := H
  refine jm_iald (dk dt_X12_store 6 rfl) rfl rfl m p_10 q_10 ?_
  obtain ⟨p_11, q_11, H⟩ := H
  refine jm_iast (dk dt_X12_store 7 rfl) rfl rfl m p_11 q_11 (m.2.1.1 _ _) (fun h_11 m_11 => ?_)
  replace H := H _ rfl
  refine j_aload_n (dk dt_X12_store 8 rfl) rfl ?_
  refine jm_getA (dk dt_X12_store 9 rfl) fl_X12_112 rfl (c := 15) rfl m_11 ?_
  refine j_iload_n (dk dt_X12_store 10 rfl) rfl ?_
  refine j_aload_n (dk dt_X12_store 11 rfl) rfl ?_
  refine jm_getA (dk dt_X12_store 12 rfl) fl_X12_129 rfl (c := 15) rfl m_11 ?_
  refine j_iload_n (dk dt_X12_store 13 rfl) rfl ?_
  obtain ⟨p_22, q_22, H⟩ := H
  refine jm_lald (dk dt_X12_store 14 rfl) rfl rfl m_11 p_22 q_22 ?_
  obtain ⟨p_23, q_23, H⟩ := H
  refine jm_last (dk dt_X12_store 15 rfl) rfl rfl m_11 p_23 q_23 (m_11.2.1.2.1 _ _) (fun h_23 m_23 => ?_)
  replace H := H _ rfl
  refine j_aload_n (dk dt_X12_store 16 rfl) rfl ?_
  refine jm_getA (dk dt_X12_store 17 rfl) fl_X12_115 rfl (c := 14) rfl m_23 ?_
  refine j_iload_n (dk dt_X12_store 18 rfl) rfl ?_
  refine j_aload_n (dk dt_X12_store 19 rfl) rfl ?_
  refine jm_getA (dk dt_X12_store 20 rfl) fl_X12_126 rfl (c := 14) rfl m_23 ?_
  refine j_iload_n (dk dt_X12_store 21 rfl) rfl ?_
  refine jm_iald (dk dt_X12_store 22 rfl) rfl rfl m_23 p_10 q_10 ?_
  refine j_iconst (v := Int32.ofInt 2) (dk dt_X12_store 23 rfl) (by decide) ?_
  refine jz_icmp_ne 48 (dk dt_X12_store 24 rfl) (by decide) (m_23.2.1.1 _ _) (by decide) H (fun H => ?_) (fun H => ?_)
  · refine j_aload_n (dk dt_X12_store 25 rfl) rfl ?_
    refine jm_getA (dk dt_X12_store 26 rfl) fl_X12_132 rfl (c := 14) rfl m_23 ?_
    refine j_iload_n (dk dt_X12_store 27 rfl) rfl ?_
    obtain ⟨p_44, q_44, H⟩ := H
    refine jm_iald (dk dt_X12_store 28 rfl) rfl rfl m_23 p_44 q_44 ?_
    refine j_goto 49 (dk dt_X12_store 29 rfl) (by decide) ?_
    exact j_el (T_X12_store_49 r_x1 r_x2 r_x2 (m_23.2.1.1 _ _) m_23   H) (And.intro rfl (And.intro rfl (And.intro rfl trivial)))
  · refine j_iconst (v := Int32.ofInt 0) (dk dt_X12_store 30 rfl) (by decide) ?_
    exact j_el (T_X12_store_49 r_x1 r_x2 r_x2 (by decide) m_23   H) (And.intro rfl (And.intro rfl (And.intro rfl trivial)))
def F_X12_wholeOf  (x1 : Int) (u : Mu) (P : Int → Prop) : Prop :=
  (0 ≤ w32 (x1 - 1) ∧ w32 (x1 - 1) < 60420 ∧ P (w32 ((w32 (w32 (x1 - 1) + (mI u 38 (w32 (x1 - 1))))) - 1)))
theorem T_X12_wholeOf  {x1 : Int} {u : Mu} {P : Int → Prop} {h : Hp} {g : Nat → Nat} (r_x1 : R32 x1) (m : Ms h g u)  (H : F_X12_wholeOf x1 u P) : Con mX12_wholeOf 1 0 0 [vr (some (g 0)), ii (x1)] h (QPI h P) := by
  refine con_of rfl (Nat.le_of_ble_eq_true rfl) (by decide) ?_
  show J mX12_wholeOf 1 0 0 _ 0 [some (vr (some (g 0))), some (ii (x1))] [] h
  unfold F_X12_wholeOf at H
  refine j_iload_n (dk dt_X12_wholeOf 0 rfl) rfl ?_
  refine j_iconst (v := Int32.ofInt 1) (dk dt_X12_wholeOf 1 rfl) (by decide) ?_
  refine jz_isub (dk dt_X12_wholeOf 2 rfl) ?_
  refine j_aload_n (dk dt_X12_wholeOf 3 rfl) rfl ?_
  refine jm_getA (dk dt_X12_wholeOf 4 rfl) fl_X12_103 rfl (c := 14) rfl m ?_
  refine j_iload_n (dk dt_X12_wholeOf 5 rfl) rfl ?_
  refine j_iconst (v := Int32.ofInt 1) (dk dt_X12_wholeOf 6 rfl) (by decide) ?_
  refine jz_isub (dk dt_X12_wholeOf 7 rfl) ?_
  obtain ⟨p_10, q_10, H⟩ := H
  refine jm_iald (dk dt_X12_wholeOf 8 rfl) rfl rfl m p_10 q_10 ?_
  refine jz_iadd (dk dt_X12_wholeOf 9 rfl) ?_
  refine j_iconst (v := Int32.ofInt 1) (dk dt_X12_wholeOf 10 rfl) (by decide) ?_
  refine jz_isub (dk dt_X12_wholeOf 11 rfl) ?_
  exact j_ireturn (dk dt_X12_wholeOf 12 rfl) rfl rfl ⟨_, rfl, (r32_w _), rfl, H⟩
def L_X12_under_14  (x2 : Int) (x3 : Int) (x4 : Int) (u : Mu) (P : (Int × Int) ⊕ ((Int)) → Prop) : Prop :=
  (if x4 ≤ x2 then P (.inr x3) else (0 ≤ x3 ∧ x3 < 60420 ∧ P (.inl (w32 (x3 - (mI u 28 x3)), w32 (x4 + (-1))))))
theorem U_X12_under_14  {x2 : Int} {x3 : Int} {x4 : Int} {u : Mu} {P : (Int × Int) ⊕ ((Int)) → Prop} {h : Hp} {g : Nat → Nat} {post : Option Sv ⊕ String → Hp → Prop} (r_x2 : R32 x2) (r_x3 : R32 x3) (r_x4 : R32 x4) (m : Ms h g u)  (hl : ∀ (x3 : Int) (x4 : Int), P (.inl (x3, x4)) → R32 x3 → R32 x4 → J mX12_under 1 0 0 post 14 [some (vr (some (g 0))), none, some (ii (x2)), some (ii (x3)), some (ii (x4))] [] h) (he0 : ∀ (x3 : Int), P (.inr x3) → R32 x3 → J mX12_under 1 0 0 post 35 [none, none, none, some (ii (x3)), none] [] h) (H : L_X12_under_14 x2 x3 x4 u P) : J mX12_under 1 0 0 post 14 [some (vr (some (g 0))), none, some (ii (x2)), some (ii (x3)), some (ii (x4))] [] h := by
  unfold L_X12_under_14 at H
  refine j_iload (dk dt_X12_under 11 rfl) rfl ?_
  refine j_iload_n (dk dt_X12_under 12 rfl) rfl ?_
  refine jz_icmp_le 35 (dk dt_X12_under 13 rfl) (by decide) r_x4 r_x2 H (fun H => ?_) (fun H => ?_)
  · exact j_el (he0 _ H r_x3) (And.intro rfl trivial)
  · refine j_iload_n (dk dt_X12_under 14 rfl) rfl ?_
    refine j_aload_n (dk dt_X12_under 15 rfl) rfl ?_
    refine jm_getA (dk dt_X12_under 16 rfl) fl_X12_73 rfl (c := 14) rfl m ?_
    refine j_iload_n (dk dt_X12_under 17 rfl) rfl ?_
    obtain ⟨p_26, q_26, H⟩ := H
    refine jm_iald (dk dt_X12_under 18 rfl) rfl rfl m p_26 q_26 ?_
    refine jz_isub (dk dt_X12_under 19 rfl) ?_
    refine j_istore_n (dk dt_X12_under 20 rfl) (by decide) ?_
    refine jz_iinc (dk dt_X12_under 21 rfl) rfl ?_
    refine j_goto 14 (dk dt_X12_under 22 rfl) (by decide) ?_
    exact j_el (hl _ _ H (r32_w _) (r32_w _)) (And.intro rfl (And.intro rfl (And.intro rfl (And.intro rfl trivial))))
def F_X12_under_14  (x2 : Int) (x3 : Int) (x4 : Int) (u : Mu) (P : Int → Prop) : Prop :=
  lp (S := Int × Int) (E := (Int)) (fun q P_ => L_X12_under_14 x2 q.1 q.2 u P_) (x3, x4) (fun (x3 : Int) => P x3)
theorem T_X12_under_14  {x2 : Int} {x3 : Int} {x4 : Int} {u : Mu} {P : Int → Prop} {h : Hp} {g : Nat → Nat} (r_x2 : R32 x2) (r_x3 : R32 x3) (r_x4 : R32 x4) (m : Ms h g u)   (H : F_X12_under_14 x2 x3 x4 u P) : J mX12_under 1 0 0 (nx (QPI h P)) 14 [some (vr (some (g 0))), none, some (ii (x2)), some (ii (x3)), some (ii (x4))] [] h := by
  unfold F_X12_under_14 at H
  refine lp_J (G := fun q => R32 (q.1) → R32 (q.2) → J mX12_under 1 0 0 (nx (QPI h P)) 14 [some (vr (some (g 0))), none, some (ii (x2)), some (ii ((q.1))), some (ii ((q.2)))] [] h) (fun q P_ hl_ he_ Hb => ?_) (x3, x4) H r_x3 r_x4
  obtain ⟨x3, x4⟩ := q
  intro r_x3 r_x4
  refine U_X12_under_14 (P := P_) r_x2 r_x3 r_x4 m  (fun x3 x4 Hp r_x3 r_x4 => hl_ (x3, x4) Hp r_x3 r_x4) ?_ Hb
  · intro x3 Hp r_x3
    have H := he_ _ Hp
    refine j_iload_n (dk dt_X12_under 23 rfl) rfl ?_
    exact j_ireturn (dk dt_X12_under 24 rfl) rfl rfl ⟨_, rfl, r_x3, rfl, H⟩
def F_X12_under  (x1 : Int) (x2 : Int) (u : Mu) (P : Int → Prop) : Prop :=
  (0 ≤ x1 ∧ x1 < 60420 ∧ F_X12_under_14 x2 (w32 (x1 - 1)) (w32 ((mI u 27 x1) - 1)) u P)
theorem T_X12_under  {x1 : Int} {x2 : Int} {u : Mu} {P : Int → Prop} {h : Hp} {g : Nat → Nat} (r_x1 : R32 x1) (r_x2 : R32 x2) (m : Ms h g u)  (H : F_X12_under x1 x2 u P) : Con mX12_under 1 0 0 [vr (some (g 0)), ii (x1), ii (x2)] h (QPI h P) := by
  refine con_of rfl (Nat.le_of_ble_eq_true rfl) (by decide) ?_
  show J mX12_under 1 0 0 _ 0 [some (vr (some (g 0))), some (ii (x1)), some (ii (x2)), none, none] [] h
  unfold F_X12_under at H
  refine j_iload_n (dk dt_X12_under 0 rfl) rfl ?_
  refine j_iconst (v := Int32.ofInt 1) (dk dt_X12_under 1 rfl) (by decide) ?_
  refine jz_isub (dk dt_X12_under 2 rfl) ?_
  refine j_istore_n (dk dt_X12_under 3 rfl) (by decide) ?_
  refine j_aload_n (dk dt_X12_under 4 rfl) rfl ?_
  refine jm_getA (dk dt_X12_under 5 rfl) fl_X12_70 rfl (c := 14) rfl m ?_
  refine j_iload_n (dk dt_X12_under 6 rfl) rfl ?_
  obtain ⟨p_9, q_9, H⟩ := H
  refine jm_iald (dk dt_X12_under 7 rfl) rfl rfl m p_9 q_9 ?_
  refine j_iconst (v := Int32.ofInt 1) (dk dt_X12_under 8 rfl) (by decide) ?_
  refine jz_isub (dk dt_X12_under 9 rfl) ?_
  refine j_istore (dk dt_X12_under 10 rfl) (by decide) ?_
  exact j_el (T_X12_under_14 r_x2 (r32_w _) (r32_w _) m   H) (And.intro rfl (And.intro rfl (And.intro rfl (And.intro rfl trivial))))
def F_X12_wantsText_93  (u : Mu) (P : Mu → Prop) : Prop :=
  P u
theorem T_X12_wantsText_93  {u : Mu} {P : Mu → Prop} {h : Hp} {g : Nat → Nat}  (m : Ms h g u)   (H : F_X12_wantsText_93 u P) : J mX12_wantsText 8 0 0 (nx (QMV g P)) 93 [none, none, none] [] h := by
  unfold F_X12_wantsText_93 at H
  exact j_return (dk dt_X12_wantsText 52 rfl) rfl ⟨_, rfl, m, H⟩
def F_X12_wantsText_52  (s1 : Int) (s2 : Nat) (u : Mu) (P : Mu → Prop) : Prop :=
  F_X12_word s1 s2 u (fun u_52 => F_X12_wantsText_93 u_52 P)
theorem T_X12_wantsText_52  {s1 : Int} {s2 : Nat} {u : Mu} {P : Mu → Prop} {h : Hp} {g : Nat → Nat} (r_s1 : R32 s1) (m : Ms h g u)   (H : F_X12_wantsText_52 s1 s2 u P) : J mX12_wantsText 8 0 0 (nx (QMV g P)) 52 [none, none, none] [vs (s2), ii (s1), vr (some (g 0))] h := by
  unfold F_X12_wantsText_52 at H
  refine jz_callV2 (dk dt_X12_wantsText 28 rfl) vl_X12_550 rfl (T_X12_word r_s1 m H) m.1.1 rfl (by decide) (Nat.zero_le _) (Nat.zero_le _) (Nat.le_of_ble_eq_true rfl) (fun v_52 h_52 P_52 => ?_)
  obtain ⟨u_52, rfl, m_52, H⟩ := P_52
  dsimp only [rs]
  refine j_goto 93 (dk dt_X12_wantsText 29 rfl) (by decide) ?_
  exact j_el (T_X12_wantsText_93  m_52   H) trivial
def F_X12_wantsText  (x1 : Int) (u : Mu) (P : Mu → Prop) : Prop :=
  (0 ≤ x1 ∧ x1 < 200 ∧ (if mI u 66 x1 = 0 then F_X12_word x1 31 u (fun u_14 => F_X12_wantsText_93 u_14 P) else (if mI u 66 x1 = 3 then (0 ≤ x1 ∧ x1 < 200 ∧ (if mG u 67 x1 = 1 then F_X12_wantsText_52 x1 11 u P else F_X12_wantsText_52 x1 12 u P)) else (if mI u 66 x1 = 1 then (0 ≤ x1 ∧ x1 < 200 ∧ F_X12_decimal (mG u 67 x1) u (fun x_75 u_75 => F_X12_text x1 70 (w32 (20 - x_75)) x_75 u_75 (fun u_90 => F_X12_wantsText_93 u_90 P))) else F_X12_wantsText_93 u P))))
theorem T_X12_wantsText  {x1 : Int} {u : Mu} {P : Mu → Prop} {h : Hp} {g : Nat → Nat} (r_x1 : R32 x1) (m : Ms h g u)  (H : F_X12_wantsText x1 u P) : Con mX12_wantsText 8 0 0 [vr (some (g 0)), ii (x1)] h (QMV g P) := by
  refine con_of rfl (Nat.le_of_ble_eq_true rfl) (by decide) ?_
  show J mX12_wantsText 8 0 0 _ 0 [some (vr (some (g 0))), some (ii (x1)), none] [] h
  unfold F_X12_wantsText at H
  refine j_aload_n (dk dt_X12_wantsText 0 rfl) rfl ?_
  refine jm_getA (dk dt_X12_wantsText 1 rfl) fl_X12_126 rfl (c := 14) rfl m ?_
  refine j_iload_n (dk dt_X12_wantsText 2 rfl) rfl ?_
  obtain ⟨p_5, q_5, H⟩ := H
  refine jm_iald (dk dt_X12_wantsText 3 rfl) rfl rfl m p_5 q_5 ?_
  refine jz_if_ne 20 (dk dt_X12_wantsText 4 rfl) (by decide) (m.2.1.1 _ _) H (fun H => ?_) (fun H => ?_)
  · refine j_aload_n (dk dt_X12_wantsText 5 rfl) rfl ?_
    refine j_iload_n (dk dt_X12_wantsText 6 rfl) rfl ?_
    refine j_ldcwS 31 rfl (dk dt_X12_wantsText 7 rfl) rfl rfl ?_
    refine jz_callV2 (dk dt_X12_wantsText 8 rfl) vl_X12_550 rfl (T_X12_word r_x1 m H) m.1.1 rfl (by decide) (Nat.zero_le _) (Nat.zero_le _) (Nat.le_of_ble_eq_true rfl) (fun v_14 h_14 P_14 => ?_)
    obtain ⟨u_14, rfl, m_14, H⟩ := P_14
    dsimp only [rs]
    refine j_goto 93 (dk dt_X12_wantsText 9 rfl) (by decide) ?_
    exact j_el (T_X12_wantsText_93  m_14   H) trivial
  · refine j_aload_n (dk dt_X12_wantsText 10 rfl) rfl ?_
    refine jm_getA (dk dt_X12_wantsText 11 rfl) fl_X12_126 rfl (c := 14) rfl m ?_
    refine j_iload_n (dk dt_X12_wantsText 12 rfl) rfl ?_
    refine jm_iald (dk dt_X12_wantsText 13 rfl) rfl rfl m p_5 q_5 ?_
    refine j_iconst (v := Int32.ofInt 3) (dk dt_X12_wantsText 14 rfl) (by decide) ?_
    refine jz_icmp_ne 58 (dk dt_X12_wantsText 15 rfl) (by decide) (m.2.1.1 _ _) (by decide) H (fun H => ?_) (fun H => ?_)
    · refine j_aload_n (dk dt_X12_wantsText 16 rfl) rfl ?_
      refine j_iload_n (dk dt_X12_wantsText 17 rfl) rfl ?_
      refine j_aload_n (dk dt_X12_wantsText 18 rfl) rfl ?_
      refine jm_getA (dk dt_X12_wantsText 19 rfl) fl_X12_129 rfl (c := 15) rfl m ?_
      refine j_iload_n (dk dt_X12_wantsText 20 rfl) rfl ?_
      obtain ⟨p_37, q_37, H⟩ := H
      refine jm_lald (dk dt_X12_wantsText 21 rfl) rfl rfl m p_37 q_37 ?_
      refine j_lconst (v := Int64.ofInt 1) (dk dt_X12_wantsText 22 rfl) (by decide) ?_
      refine jz_lcmp (dk dt_X12_wantsText 23 rfl) (m.2.1.2.1 _ _) (by decide) ?_
      refine jz_lif_ne 49 (dk dt_X12_wantsText 24 rfl) (by decide) H (fun H => ?_) (fun H => ?_)
      · refine j_ldcwS 11 rfl (dk dt_X12_wantsText 25 rfl) rfl rfl ?_
        refine j_goto 52 (dk dt_X12_wantsText 26 rfl) (by decide) ?_
        exact j_el (T_X12_wantsText_52 r_x1 m   H) trivial
      · refine j_ldcwS 12 rfl (dk dt_X12_wantsText 27 rfl) rfl rfl ?_
        exact j_el (T_X12_wantsText_52 r_x1 m   H) trivial
    · refine j_aload_n (dk dt_X12_wantsText 30 rfl) rfl ?_
      refine jm_getA (dk dt_X12_wantsText 31 rfl) fl_X12_126 rfl (c := 14) rfl m ?_
      refine j_iload_n (dk dt_X12_wantsText 32 rfl) rfl ?_
      refine jm_iald (dk dt_X12_wantsText 33 rfl) rfl rfl m p_5 q_5 ?_
      refine j_iconst (v := Int32.ofInt 1) (dk dt_X12_wantsText 34 rfl) (by decide) ?_
      refine jz_icmp_ne 93 (dk dt_X12_wantsText 35 rfl) (by decide) (m.2.1.1 _ _) (by decide) H (fun H => ?_) (fun H => ?_)
      · refine j_aload_n (dk dt_X12_wantsText 36 rfl) rfl ?_
        refine j_aload_n (dk dt_X12_wantsText 37 rfl) rfl ?_
        refine jm_getA (dk dt_X12_wantsText 38 rfl) fl_X12_129 rfl (c := 15) rfl m ?_
        refine j_iload_n (dk dt_X12_wantsText 39 rfl) rfl ?_
        obtain ⟨p_74, q_74, H⟩ := H
        refine jm_lald (dk dt_X12_wantsText 40 rfl) rfl rfl m p_74 q_74 ?_
        refine jz_callV1 (dk dt_X12_wantsText 41 rfl) vl_X12_554 rfl (T_X12_decimal (m.2.1.2.1 _ _) m H) m.1.1 rfl (by decide) (Nat.zero_le _) (Nat.zero_le _) (Nat.le_of_ble_eq_true rfl) (fun v_75 h_75 P_75 => ?_)
        obtain ⟨x_75, u_75, rfl, r_75, m_75, H⟩ := P_75
        dsimp only [rs]
        refine j_istore_n (dk dt_X12_wantsText 42 rfl) (by decide) ?_
        refine j_aload_n (dk dt_X12_wantsText 43 rfl) rfl ?_
        refine j_iload_n (dk dt_X12_wantsText 44 rfl) rfl ?_
        refine j_aload_n (dk dt_X12_wantsText 45 rfl) rfl ?_
        refine jm_getA (dk dt_X12_wantsText 46 rfl) fl_X12_138 rfl (c := 13) rfl m_75 ?_
        refine j_bipush (v := Int32.ofInt 20) (dk dt_X12_wantsText 47 rfl) (by decide) ?_
        refine j_iload_n (dk dt_X12_wantsText 48 rfl) rfl ?_
        refine jz_isub (dk dt_X12_wantsText 49 rfl) ?_
        refine j_iload_n (dk dt_X12_wantsText 50 rfl) rfl ?_
        refine jz_callV4 (dk dt_X12_wantsText 51 rfl) vl_X12_533 rfl (T_X12_text r_x1 (r32_w _) r_75 m_75 H) m_75.1.1 rfl (by decide) (Nat.zero_le _) (Nat.zero_le _) (Nat.le_of_ble_eq_true rfl) (fun v_90 h_90 P_90 => ?_)
        obtain ⟨u_90, rfl, m_90, H⟩ := P_90
        dsimp only [rs]
        exact j_el (T_X12_wantsText_93  m_90   H) trivial
      · exact j_el (T_X12_wantsText_93  m   H) trivial
def F_X12_isLike_87  (s0 : Int) (u : Mu) (P : Int → Mu → Prop) : Prop :=
  (Z1 s0 ∧ P s0 u)
theorem T_X12_isLike_87  {s0 : Int} {u : Mu} {P : Int → Mu → Prop} {h : Hp} {g : Nat → Nat} (r_s0 : R32 s0) (m : Ms h g u)   (H : F_X12_isLike_87 s0 u P) : J mX12_isLike 9 0 0 (nx (QMI g P)) 87 [none, none, none] [ii (s0)] h := by
  unfold F_X12_isLike_87 at H
  obtain ⟨hz_, H⟩ := H
  exact j_ireturn (dk dt_X12_isLike 63 rfl) rfl (nar_z hz_) ⟨_, _, rfl, r_s0, m, H⟩
def F_X12_isLike_86  (u : Mu) (P : Int → Mu → Prop) : Prop :=
  F_X12_isLike_87 0 u P
theorem T_X12_isLike_86  {u : Mu} {P : Int → Mu → Prop} {h : Hp} {g : Nat → Nat}  (m : Ms h g u)   (H : F_X12_isLike_86 u P) : J mX12_isLike 9 0 0 (nx (QMI g P)) 86 [none, none, none] [] h := by
  unfold F_X12_isLike_86 at H
  refine j_iconst (v := Int32.ofInt 0) (dk dt_X12_isLike 62 rfl) (by decide) ?_
  exact j_el (T_X12_isLike_87 (by decide) m   H) trivial
def F_X12_isLike  (x1 : Int) (x2 : Int) (u : Mu) (P : Int → Mu → Prop) : Prop :=
  F_X12_load (w32 (x1 + 1)) x2 u (fun u_5 => (0 ≤ w32 (x1 + 1) ∧ w32 (x1 + 1) < 200 ∧ (if mI u_5 66 (w32 (x1 + 1)) = 4 then P 0 u_5 else F_X12_bring x1 (w32 (x1 + 2)) u_5 (fun u_27 => F_X12_asOther (w32 (x1 + 1)) (w32 (x1 + 2)) u_27 (fun u_37 => F_X12_asOther (w32 (x1 + 2)) (w32 (x1 + 1)) u_37 (fun u_47 => (0 ≤ w32 (x1 + 2) ∧ w32 (x1 + 2) < 200 ∧ (if mI u_47 66 (w32 (x1 + 1)) = mI u_47 66 (w32 (x1 + 2)) then F_X12_order (w32 (x1 + 1)) (w32 (x1 + 2)) u_47 (fun x_76 => (if x_76 = 0 then F_X12_isLike_87 1 u_47 P else F_X12_isLike_86 u_47 P)) else F_X12_isLike_86 u_47 P))))))))
theorem T_X12_isLike  {x1 : Int} {x2 : Int} {u : Mu} {P : Int → Mu → Prop} {h : Hp} {g : Nat → Nat} (r_x1 : R32 x1) (r_x2 : R32 x2) (m : Ms h g u)  (H : F_X12_isLike x1 x2 u P) : Con mX12_isLike 9 0 0 [vr (some (g 0)), ii (x1), ii (x2)] h (QMI g P) := by
  refine con_of rfl (Nat.le_of_ble_eq_true rfl) (by decide) ?_
  show J mX12_isLike 9 0 0 _ 0 [some (vr (some (g 0))), some (ii (x1)), some (ii (x2))] [] h
  unfold F_X12_isLike at H
  refine j_aload_n (dk dt_X12_isLike 0 rfl) rfl ?_
  refine j_iload_n (dk dt_X12_isLike 1 rfl) rfl ?_
  refine j_iconst (v := Int32.ofInt 1) (dk dt_X12_isLike 2 rfl) (by decide) ?_
  refine jz_iadd (dk dt_X12_isLike 3 rfl) ?_
  refine j_iload_n (dk dt_X12_isLike 4 rfl) rfl ?_
  refine jz_callV2 (dk dt_X12_isLike 5 rfl) vl_X12_585 rfl (T_X12_load (r32_w _) r_x2 m H) m.1.1 rfl (by decide) (Nat.zero_le _) (Nat.zero_le _) (Nat.le_of_ble_eq_true rfl) (fun v_5 h_5 P_5 => ?_)
  obtain ⟨u_5, rfl, m_5, H⟩ := P_5
  dsimp only [rs]
  refine j_aload_n (dk dt_X12_isLike 6 rfl) rfl ?_
  refine jm_getA (dk dt_X12_isLike 7 rfl) fl_X12_126 rfl (c := 14) rfl m_5 ?_
  refine j_iload_n (dk dt_X12_isLike 8 rfl) rfl ?_
  refine j_iconst (v := Int32.ofInt 1) (dk dt_X12_isLike 9 rfl) (by decide) ?_
  refine jz_iadd (dk dt_X12_isLike 10 rfl) ?_
  obtain ⟨p_15, q_15, H⟩ := H
  refine jm_iald (dk dt_X12_isLike 11 rfl) rfl rfl m_5 p_15 q_15 ?_
  refine j_iconst (v := Int32.ofInt 4) (dk dt_X12_isLike 12 rfl) (by decide) ?_
  refine jz_icmp_ne 22 (dk dt_X12_isLike 13 rfl) (by decide) (m_5.2.1.1 _ _) (by decide) H (fun H => ?_) (fun H => ?_)
  · refine j_iconst (v := Int32.ofInt 0) (dk dt_X12_isLike 14 rfl) (by decide) ?_
    exact j_ireturn (dk dt_X12_isLike 15 rfl) rfl (nar_z (by decide)) ⟨_, _, rfl, (by decide), m_5, H⟩
  · refine j_aload_n (dk dt_X12_isLike 16 rfl) rfl ?_
    refine j_iload_n (dk dt_X12_isLike 17 rfl) rfl ?_
    refine j_iload_n (dk dt_X12_isLike 18 rfl) rfl ?_
    refine j_iconst (v := Int32.ofInt 2) (dk dt_X12_isLike 19 rfl) (by decide) ?_
    refine jz_iadd (dk dt_X12_isLike 20 rfl) ?_
    refine jz_callV2 (dk dt_X12_isLike 21 rfl) vl_X12_603 rfl (T_X12_bring r_x1 (r32_w _) m_5 H) m_5.1.1 rfl (by decide) (Nat.zero_le _) (Nat.zero_le _) (Nat.le_of_ble_eq_true rfl) (fun v_27 h_27 P_27 => ?_)
    obtain ⟨u_27, rfl, m_27, H⟩ := P_27
    dsimp only [rs]
    refine j_aload_n (dk dt_X12_isLike 22 rfl) rfl ?_
    refine j_iload_n (dk dt_X12_isLike 23 rfl) rfl ?_
    refine j_iconst (v := Int32.ofInt 1) (dk dt_X12_isLike 24 rfl) (by decide) ?_
    refine jz_iadd (dk dt_X12_isLike 25 rfl) ?_
    refine j_iload_n (dk dt_X12_isLike 26 rfl) rfl ?_
    refine j_iconst (v := Int32.ofInt 2) (dk dt_X12_isLike 27 rfl) (by decide) ?_
    refine jz_iadd (dk dt_X12_isLike 28 rfl) ?_
    refine jz_callV2 (dk dt_X12_isLike 29 rfl) vl_X12_622 rfl (T_X12_asOther (r32_w _) (r32_w _) m_27 H) m_27.1.1 rfl (by decide) (Nat.zero_le _) (Nat.zero_le _) (Nat.le_of_ble_eq_true rfl) (fun v_37 h_37 P_37 => ?_)
    obtain ⟨u_37, rfl, m_37, H⟩ := P_37
    dsimp only [rs]
    refine j_aload_n (dk dt_X12_isLike 30 rfl) rfl ?_
    refine j_iload_n (dk dt_X12_isLike 31 rfl) rfl ?_
    refine j_iconst (v := Int32.ofInt 2) (dk dt_X12_isLike 32 rfl) (by decide) ?_
    refine jz_iadd (dk dt_X12_isLike 33 rfl) ?_
    refine j_iload_n (dk dt_X12_isLike 34 rfl) rfl ?_
    refine j_iconst (v := Int32.ofInt 1) (dk dt_X12_isLike 35 rfl) (by decide) ?_
    refine jz_iadd (dk dt_X12_isLike 36 rfl) ?_
    refine jz_callV2 (dk dt_X12_isLike 37 rfl) vl_X12_622 rfl (T_X12_asOther (r32_w _) (r32_w _) m_37 H) m_37.1.1 rfl (by decide) (Nat.zero_le _) (Nat.zero_le _) (Nat.le_of_ble_eq_true rfl) (fun v_47 h_47 P_47 => ?_)
    obtain ⟨u_47, rfl, m_47, H⟩ := P_47
    dsimp only [rs]
    refine j_aload_n (dk dt_X12_isLike 38 rfl) rfl ?_
    refine jm_getA (dk dt_X12_isLike 39 rfl) fl_X12_126 rfl (c := 14) rfl m_47 ?_
    refine j_iload_n (dk dt_X12_isLike 40 rfl) rfl ?_
    refine j_iconst (v := Int32.ofInt 1) (dk dt_X12_isLike 41 rfl) (by decide) ?_
    refine jz_iadd (dk dt_X12_isLike 42 rfl) ?_
    refine jm_iald (dk dt_X12_isLike 43 rfl) rfl rfl m_47 p_15 q_15 ?_
    refine j_aload_n (dk dt_X12_isLike 44 rfl) rfl ?_
    refine jm_getA (dk dt_X12_isLike 45 rfl) fl_X12_126 rfl (c := 14) rfl m_47 ?_
    refine j_iload_n (dk dt_X12_isLike 46 rfl) rfl ?_
    refine j_iconst (v := Int32.ofInt 2) (dk dt_X12_isLike 47 rfl) (by decide) ?_
    refine jz_iadd (dk dt_X12_isLike 48 rfl) ?_
    obtain ⟨p_65, q_65, H⟩ := H
    refine jm_iald (dk dt_X12_isLike 49 rfl) rfl rfl m_47 p_65 q_65 ?_
    refine jz_icmp_ne 86 (dk dt_X12_isLike 50 rfl) (by decide) (m_47.2.1.1 _ _) (m_47.2.1.1 _ _) H (fun H => ?_) (fun H => ?_)
    · refine j_aload_n (dk dt_X12_isLike 51 rfl) rfl ?_
      refine j_iload_n (dk dt_X12_isLike 52 rfl) rfl ?_
      refine j_iconst (v := Int32.ofInt 1) (dk dt_X12_isLike 53 rfl) (by decide) ?_
      refine jz_iadd (dk dt_X12_isLike 54 rfl) ?_
      refine j_iload_n (dk dt_X12_isLike 55 rfl) rfl ?_
      refine j_iconst (v := Int32.ofInt 2) (dk dt_X12_isLike 56 rfl) (by decide) ?_
      refine jz_iadd (dk dt_X12_isLike 57 rfl) ?_
      refine jz_callV2 (dk dt_X12_isLike 58 rfl) vl_X12_625 rfl (T_X12_order (r32_w _) (r32_w _) m_47 H) m_47.1.1 rfl (by decide) (Nat.zero_le _) (Nat.zero_le _) (Nat.le_of_ble_eq_true rfl) (fun v_76 h_76 P_76 => ?_)
      obtain ⟨x_76, rfl, r_76, rfl, H⟩ := P_76
      dsimp only [rs]
      refine jz_if_ne 86 (dk dt_X12_isLike 59 rfl) (by decide) r_76 H (fun H => ?_) (fun H => ?_)
      · refine j_iconst (v := Int32.ofInt 1) (dk dt_X12_isLike 60 rfl) (by decide) ?_
        refine j_goto 87 (dk dt_X12_isLike 61 rfl) (by decide) ?_
        exact j_el (T_X12_isLike_87 (by decide) m_47   H) trivial
      · exact j_el (T_X12_isLike_86  m_47   H) trivial
    · exact j_el (T_X12_isLike_86  m_47   H) trivial
def L_X12_join_46  (x1 : Int) (x2 : Int) (x3 : Int) (x4 : Int) (u : Mu) (P : (Int × Mu) ⊕ ((Mu)) → Prop) : Prop :=
  (if x3 ≤ x4 then P (.inr u) else (0 ≤ w32 (w32 (24 * (w32 (x1 + 1))) + x4) ∧ w32 (w32 (24 * (w32 (x1 + 1))) + x4) < 4800 ∧ (0 ≤ w32 (w32 (w32 (24 * x1) + x2) + x4) ∧ w32 (w32 (w32 (24 * x1) + x2) + x4) < 4800 ∧ (∀ u_79, u_79 = uI u 69 (w32 (w32 (w32 (24 * x1) + x2) + x4)) (mI u 69 (w32 (w32 (24 * (w32 (x1 + 1))) + x4))) → P (.inl (w32 (x4 + 1), u_79))))))
theorem U_X12_join_46  {x1 : Int} {x2 : Int} {x3 : Int} {x4 : Int} {u : Mu} {P : (Int × Mu) ⊕ ((Mu)) → Prop} {h : Hp} {g : Nat → Nat} {post : Option Sv ⊕ String → Hp → Prop} (r_x1 : R32 x1) (r_x2 : R32 x2) (r_x3 : R32 x3) (r_x4 : R32 x4) (m : Ms h g u)  (hl : ∀ (x4 : Int) (u : Mu) (h : Hp), P (.inl (x4, u)) → Ms h g u → R32 x4 → J mX12_join 9 0 0 post 46 [some (vr (some (g 0))), some (ii (x1)), some (ii (x2)), some (ii (x3)), some (ii (x4))] [] h) (he0 : ∀ (u : Mu) (h : Hp), P (.inr u) → Ms h g u → J mX12_join 9 0 0 post 86 [some (vr (some (g 0))), some (ii (x1)), some (ii (x2)), some (ii (x3)), none] [] h) (H : L_X12_join_46 x1 x2 x3 x4 u P) : J mX12_join 9 0 0 post 46 [some (vr (some (g 0))), some (ii (x1)), some (ii (x2)), some (ii (x3)), some (ii (x4))] [] h := by
  unfold L_X12_join_46 at H
  refine j_iload (dk dt_X12_join 32 rfl) rfl ?_
  refine j_iload_n (dk dt_X12_join 33 rfl) rfl ?_
  refine jz_icmp_ge 86 (dk dt_X12_join 34 rfl) (by decide) r_x4 r_x3 H (fun H => ?_) (fun H => ?_)
  · exact j_el (he0 _ _ H m) (And.intro rfl (And.intro rfl (And.intro rfl (And.intro rfl trivial))))
  · refine j_aload_n (dk dt_X12_join 35 rfl) rfl ?_
    refine jm_getA (dk dt_X12_join 36 rfl) fl_X12_135 rfl (c := 13) rfl m ?_
    refine j_bipush (v := Int32.ofInt 24) (dk dt_X12_join 37 rfl) (by decide) ?_
    refine j_iload_n (dk dt_X12_join 38 rfl) rfl ?_
    refine jz_imul (dk dt_X12_join 39 rfl) ?_
    refine j_iload_n (dk dt_X12_join 40 rfl) rfl ?_
    refine jz_iadd (dk dt_X12_join 41 rfl) ?_
    refine j_iload (dk dt_X12_join 42 rfl) rfl ?_
    refine jz_iadd (dk dt_X12_join 43 rfl) ?_
    refine j_aload_n (dk dt_X12_join 44 rfl) rfl ?_
    refine jm_getA (dk dt_X12_join 45 rfl) fl_X12_135 rfl (c := 13) rfl m ?_
    refine j_bipush (v := Int32.ofInt 24) (dk dt_X12_join 46 rfl) (by decide) ?_
    refine j_iload_n (dk dt_X12_join 47 rfl) rfl ?_
    refine j_iconst (v := Int32.ofInt 1) (dk dt_X12_join 48 rfl) (by decide) ?_
    refine jz_iadd (dk dt_X12_join 49 rfl) ?_
    refine jz_imul (dk dt_X12_join 50 rfl) ?_
    refine j_iload (dk dt_X12_join 51 rfl) rfl ?_
    refine jz_iadd (dk dt_X12_join 52 rfl) ?_
    obtain ⟨p_78, q_78, H⟩ := H
    refine jm_bald (dk dt_X12_join 53 rfl) rfl rfl m p_78 q_78 ?_
    obtain ⟨p_79, q_79, H⟩ := H
    refine jm_bast (dk dt_X12_join 54 rfl) rfl rfl m p_79 q_79 (m.2.1.2.2.1 _ _ rfl) (fun h_79 m_79 => ?_)
    replace H := H _ rfl
    refine jz_iinc (dk dt_X12_join 55 rfl) rfl ?_
    refine j_goto 46 (dk dt_X12_join 56 rfl) (by decide) ?_
    exact j_el (hl _ _ _ H m_79 (r32_w _)) (And.intro rfl (And.intro rfl (And.intro rfl (And.intro rfl (And.intro rfl trivial)))))
def F_X12_join_46  (x1 : Int) (x2 : Int) (x3 : Int) (x4 : Int) (u : Mu) (P : Mu → Prop) : Prop :=
  lp (S := Int × Mu) (E := (Mu)) (fun q P_ => L_X12_join_46 x1 x2 x3 q.1 q.2 P_) (x4, u) (fun (u : Mu) => (0 ≤ x1 ∧ x1 < 200 ∧ (∀ u_94, u_94 = uI u 68 x1 (w32 (x2 + x3)) → P u_94)))
theorem T_X12_join_46  {x1 : Int} {x2 : Int} {x3 : Int} {x4 : Int} {u : Mu} {P : Mu → Prop} {h : Hp} {g : Nat → Nat} (r_x1 : R32 x1) (r_x2 : R32 x2) (r_x3 : R32 x3) (r_x4 : R32 x4) (m : Ms h g u)   (H : F_X12_join_46 x1 x2 x3 x4 u P) : J mX12_join 9 0 0 (nx (QMV g P)) 46 [some (vr (some (g 0))), some (ii (x1)), some (ii (x2)), some (ii (x3)), some (ii (x4))] [] h := by
  unfold F_X12_join_46 at H
  refine lp_J (G := fun q => ∀ h : Hp, Ms h g (q.2) → R32 (q.1) → J mX12_join 9 0 0 (nx (QMV g P)) 46 [some (vr (some (g 0))), some (ii (x1)), some (ii (x2)), some (ii (x3)), some (ii ((q.1)))] [] h) (fun q P_ hl_ he_ Hb => ?_) (x4, u) H _ m r_x4
  obtain ⟨x4, u⟩ := q
  intro h m r_x4
  refine U_X12_join_46 (P := P_) r_x1 r_x2 r_x3 r_x4 m  (fun x4 u h Hp m r_x4 => hl_ (x4, u) Hp h m r_x4) ?_ Hb
  · intro u h Hp m
    have H := he_ _ Hp
    refine j_aload_n (dk dt_X12_join 57 rfl) rfl ?_
    refine jm_getA (dk dt_X12_join 58 rfl) fl_X12_132 rfl (c := 14) rfl m ?_
    refine j_iload_n (dk dt_X12_join 59 rfl) rfl ?_
    refine j_iload_n (dk dt_X12_join 60 rfl) rfl ?_
    refine j_iload_n (dk dt_X12_join 61 rfl) rfl ?_
    refine jz_iadd (dk dt_X12_join 62 rfl) ?_
    obtain ⟨p_94, q_94, H⟩ := H
    refine jm_iast (dk dt_X12_join 63 rfl) rfl rfl m p_94 q_94 (r32_w _) (fun h_94 m_94 => ?_)
    replace H := H _ rfl
    exact j_return (dk dt_X12_join 64 rfl) rfl ⟨_, rfl, m_94, H⟩
def F_X12_join  (x1 : Int) (u : Mu) (P : Mu → Prop) : Prop :=
  F_X12_wantsText x1 u (fun u_2 => F_X12_wantsText (w32 (x1 + 1)) u_2 (fun u_9 => (0 ≤ x1 ∧ x1 < 200 ∧ (0 ≤ w32 (x1 + 1) ∧ w32 (x1 + 1) < 200 ∧ (if w32 (mI u_9 68 x1 + (mI u_9 68 (w32 (x1 + 1)))) ≤ 24 then F_X12_join_46 x1 (mI u_9 68 x1) (mI u_9 68 (w32 (x1 + 1))) 0 u_9 P else F_X12_error x1 5 u_9 (fun u_39 => P u_39))))))
theorem T_X12_join  {x1 : Int} {u : Mu} {P : Mu → Prop} {h : Hp} {g : Nat → Nat} (r_x1 : R32 x1) (m : Ms h g u)  (H : F_X12_join x1 u P) : Con mX12_join 9 0 0 [vr (some (g 0)), ii (x1)] h (QMV g P) := by
  refine con_of rfl (Nat.le_of_ble_eq_true rfl) (by decide) ?_
  show J mX12_join 9 0 0 _ 0 [some (vr (some (g 0))), some (ii (x1)), none, none, none] [] h
  unfold F_X12_join at H
  refine j_aload_n (dk dt_X12_join 0 rfl) rfl ?_
  refine j_iload_n (dk dt_X12_join 1 rfl) rfl ?_
  refine jz_callV1 (dk dt_X12_join 2 rfl) vl_X12_619 rfl (T_X12_wantsText r_x1 m H) m.1.1 rfl (by decide) (Nat.zero_le _) (Nat.zero_le _) (Nat.le_of_ble_eq_true rfl) (fun v_2 h_2 P_2 => ?_)
  obtain ⟨u_2, rfl, m_2, H⟩ := P_2
  dsimp only [rs]
  refine j_aload_n (dk dt_X12_join 3 rfl) rfl ?_
  refine j_iload_n (dk dt_X12_join 4 rfl) rfl ?_
  refine j_iconst (v := Int32.ofInt 1) (dk dt_X12_join 5 rfl) (by decide) ?_
  refine jz_iadd (dk dt_X12_join 6 rfl) ?_
  refine jz_callV1 (dk dt_X12_join 7 rfl) vl_X12_619 rfl (T_X12_wantsText (r32_w _) m_2 H) m_2.1.1 rfl (by decide) (Nat.zero_le _) (Nat.zero_le _) (Nat.le_of_ble_eq_true rfl) (fun v_9 h_9 P_9 => ?_)
  obtain ⟨u_9, rfl, m_9, H⟩ := P_9
  dsimp only [rs]
  refine j_aload_n (dk dt_X12_join 8 rfl) rfl ?_
  refine jm_getA (dk dt_X12_join 9 rfl) fl_X12_132 rfl (c := 14) rfl m_9 ?_
  refine j_iload_n (dk dt_X12_join 10 rfl) rfl ?_
  obtain ⟨p_17, q_17, H⟩ := H
  refine jm_iald (dk dt_X12_join 11 rfl) rfl rfl m_9 p_17 q_17 ?_
  refine j_istore_n (dk dt_X12_join 12 rfl) (by decide) ?_
  refine j_aload_n (dk dt_X12_join 13 rfl) rfl ?_
  refine jm_getA (dk dt_X12_join 14 rfl) fl_X12_132 rfl (c := 14) rfl m_9 ?_
  refine j_iload_n (dk dt_X12_join 15 rfl) rfl ?_
  refine j_iconst (v := Int32.ofInt 1) (dk dt_X12_join 16 rfl) (by decide) ?_
  refine jz_iadd (dk dt_X12_join 17 rfl) ?_
  obtain ⟨p_26, q_26, H⟩ := H
  refine jm_iald (dk dt_X12_join 18 rfl) rfl rfl m_9 p_26 q_26 ?_
  refine j_istore_n (dk dt_X12_join 19 rfl) (by decide) ?_
  refine j_iload_n (dk dt_X12_join 20 rfl) rfl ?_
  refine j_iload_n (dk dt_X12_join 21 rfl) rfl ?_
  refine jz_iadd (dk dt_X12_join 22 rfl) ?_
  refine j_bipush (v := Int32.ofInt 24) (dk dt_X12_join 23 rfl) (by decide) ?_
  refine jz_icmp_le 43 (dk dt_X12_join 24 rfl) (by decide) (r32_w _) (by decide) H (fun H => ?_) (fun H => ?_)
  · refine j_iconst (v := Int32.ofInt 0) (dk dt_X12_join 30 rfl) (by decide) ?_
    refine j_istore (dk dt_X12_join 31 rfl) (by decide) ?_
    exact j_el (T_X12_join_46 r_x1 (m_9.2.1.1 _ _) (m_9.2.1.1 _ _) (by decide) m_9   H) (And.intro rfl (And.intro rfl (And.intro rfl (And.intro rfl (And.intro rfl trivial)))))
  · refine j_aload_n (dk dt_X12_join 25 rfl) rfl ?_
    refine j_iload_n (dk dt_X12_join 26 rfl) rfl ?_
    refine j_iconst (v := Int32.ofInt 5) (dk dt_X12_join 27 rfl) (by decide) ?_
    refine jz_callV2 (dk dt_X12_join 28 rfl) vl_X12_541 rfl (T_X12_error r_x1 (by decide) m_9 H) m_9.1.1 rfl (by decide) (Nat.zero_le _) (Nat.zero_le _) (Nat.le_of_ble_eq_true rfl) (fun v_39 h_39 P_39 => ?_)
    obtain ⟨u_39, rfl, m_39, H⟩ := P_39
    dsimp only [rs]
    exact j_return (dk dt_X12_join 29 rfl) rfl ⟨_, rfl, m_39, H⟩
def F_X12_times_68  (u : Mu) (P : Mu → Prop) : Prop :=
  P u
theorem T_X12_times_68  {u : Mu} {P : Mu → Prop} {h : Hp} {g : Nat → Nat}  (m : Ms h g u)   (H : F_X12_times_68 u P) : J mX12_times 2 0 0 (nx (QMV g P)) 68 [none, none, none, none, none, none, none, none, none, none] [] h := by
  unfold F_X12_times_68 at H
  exact j_return (dk dt_X12_times 39 rfl) rfl ⟨_, rfl, m, H⟩
def F_X12_times_59  (x1 : Int) (x2 : Int) (x4 : Int) (u : Mu) (P : Mu → Prop) : Prop :=
  F_X12_number x1 (w64 (x2 * x4)) u (fun u_65 => F_X12_times_68 u_65 P)
theorem T_X12_times_59  {x1 : Int} {x2 : Int} {x4 : Int} {u : Mu} {P : Mu → Prop} {h : Hp} {g : Nat → Nat} (r_x1 : R32 x1) (r_x2 : R64 x2) (r_x4 : R64 x4) (m : Ms h g u)   (H : F_X12_times_59 x1 x2 x4 u P) : J mX12_times 2 0 0 (nx (QMV g P)) 59 [some (vr (some (g 0))), some (ii (x1)), some (ll (x2)), none, some (ll (x4)), none, none, none, none, none] [] h := by
  unfold F_X12_times_59 at H
  refine j_aload_n (dk dt_X12_times 33 rfl) rfl ?_
  refine j_iload_n (dk dt_X12_times 34 rfl) rfl ?_
  refine j_lload_n (dk dt_X12_times 35 rfl) rfl ?_
  refine j_lload (dk dt_X12_times 36 rfl) rfl ?_
  refine jz_lmul (dk dt_X12_times 37 rfl) ?_
  refine jz_callV2 (dk dt_X12_times 38 rfl) vl_X12_537 rfl (T_X12_number r_x1 (r64_w _) m H) m.1.1 rfl (by decide) (Nat.zero_le _) (Nat.zero_le _) (Nat.le_of_ble_eq_true rfl) (fun v_65 h_65 P_65 => ?_)
  obtain ⟨u_65, rfl, m_65, H⟩ := P_65
  dsimp only [rs]
  exact j_el (T_X12_times_68  m_65   H) trivial
def F_X12_times_29  (x1 : Int) (x2 : Int) (x4 : Int) (x6 : Int) (s0 : Int) (u : Mu) (P : Mu → Prop) : Prop :=
  (if x6 ≤ 0 then F_X12_times_59 x1 x2 x4 u P else (¬ x6 = 0 ∧ (if s0 ≤ w64 (Int.tdiv 1000000000000000 x6) then F_X12_times_59 x1 x2 x4 u P else F_X12_error x1 4 u (fun u_53 => F_X12_times_68 u_53 P))))
theorem T_X12_times_29  {x1 : Int} {x2 : Int} {x4 : Int} {x6 : Int} {s0 : Int} {u : Mu} {P : Mu → Prop} {h : Hp} {g : Nat → Nat} (r_x1 : R32 x1) (r_x2 : R64 x2) (r_x4 : R64 x4) (r_x6 : R64 x6) (r_s0 : R64 s0) (m : Ms h g u)   (H : F_X12_times_29 x1 x2 x4 x6 s0 u P) : J mX12_times 2 0 0 (nx (QMV g P)) 29 [some (vr (some (g 0))), some (ii (x1)), some (ll (x2)), none, some (ll (x4)), none, some (ll (x6)), none, none, none] [ll (s0)] h := by
  unfold F_X12_times_29 at H
  refine j_lstore (dk dt_X12_times 17 rfl) (by decide) ?_
  refine j_lload (dk dt_X12_times 18 rfl) rfl ?_
  refine j_lconst (v := Int64.ofInt 0) (dk dt_X12_times 19 rfl) (by decide) ?_
  refine jz_lcmp (dk dt_X12_times 20 rfl) r_x6 (by decide) ?_
  refine jz_lif_le 59 (dk dt_X12_times 21 rfl) (by decide) H (fun H => ?_) (fun H => ?_)
  · exact j_el (T_X12_times_59 r_x1 r_x2 r_x4 m   H) (And.intro rfl (And.intro rfl (And.intro rfl (And.intro rfl trivial))))
  · refine j_lload (dk dt_X12_times 22 rfl) rfl ?_
    refine j_ldc2 (v := Int64.ofInt (1000000000000000)) (dk dt_X12_times 23 rfl) (by exact kl_X12_527) ?_
    refine j_lload (dk dt_X12_times 24 rfl) rfl ?_
    obtain ⟨n_45, H⟩ := H
    refine jz_ldiv (dk dt_X12_times 25 rfl) (by decide) r_x6 n_45 ?_
    refine jz_lcmp (dk dt_X12_times 26 rfl) r_s0 (r64_w _) ?_
    refine jz_lif_le 59 (dk dt_X12_times 27 rfl) (by decide) H (fun H => ?_) (fun H => ?_)
    · exact j_el (T_X12_times_59 r_x1 r_x2 r_x4 m   H) (And.intro rfl (And.intro rfl (And.intro rfl (And.intro rfl trivial))))
    · refine j_aload_n (dk dt_X12_times 28 rfl) rfl ?_
      refine j_iload_n (dk dt_X12_times 29 rfl) rfl ?_
      refine j_iconst (v := Int32.ofInt 4) (dk dt_X12_times 30 rfl) (by decide) ?_
      refine jz_callV2 (dk dt_X12_times 31 rfl) vl_X12_541 rfl (T_X12_error r_x1 (by decide) m H) m.1.1 rfl (by decide) (Nat.zero_le _) (Nat.zero_le _) (Nat.le_of_ble_eq_true rfl) (fun v_53 h_53 P_53 => ?_)
      obtain ⟨u_53, rfl, m_53, H⟩ := P_53
      dsimp only [rs]
      refine j_goto 68 (dk dt_X12_times 32 rfl) (by decide) ?_
      exact j_el (T_X12_times_68  m_53   H) trivial
def F_X12_times_12  (x1 : Int) (x2 : Int) (x4 : Int) (s0 : Int) (u : Mu) (P : Mu → Prop) : Prop :=
  (if 0 ≤ x4 then F_X12_times_29 x1 x2 x4 s0 x4 u P else F_X12_times_29 x1 x2 x4 s0 (w64 (-x4)) u P)
theorem T_X12_times_12  {x1 : Int} {x2 : Int} {x4 : Int} {s0 : Int} {u : Mu} {P : Mu → Prop} {h : Hp} {g : Nat → Nat} (r_x1 : R32 x1) (r_x2 : R64 x2) (r_x4 : R64 x4) (r_s0 : R64 s0) (m : Ms h g u)   (H : F_X12_times_12 x1 x2 x4 s0 u P) : J mX12_times 2 0 0 (nx (QMV g P)) 12 [some (vr (some (g 0))), some (ii (x1)), some (ll (x2)), none, some (ll (x4)), none, none, none, none, none] [ll (s0)] h := by
  unfold F_X12_times_12 at H
  refine j_lstore (dk dt_X12_times 8 rfl) (by decide) ?_
  refine j_lload (dk dt_X12_times 9 rfl) rfl ?_
  refine j_lconst (v := Int64.ofInt 0) (dk dt_X12_times 10 rfl) (by decide) ?_
  refine jz_lcmp (dk dt_X12_times 11 rfl) r_x4 (by decide) ?_
  refine jz_lif_ge 27 (dk dt_X12_times 12 rfl) (by decide) H (fun H => ?_) (fun H => ?_)
  · refine j_lload (dk dt_X12_times 16 rfl) rfl ?_
    exact j_el (T_X12_times_29 r_x1 r_x2 r_x4 r_s0 r_x4 m   H) (And.intro rfl (And.intro rfl (And.intro rfl (And.intro rfl (And.intro rfl trivial)))))
  · refine j_lload (dk dt_X12_times 13 rfl) rfl ?_
    refine jz_lneg (dk dt_X12_times 14 rfl) ?_
    refine j_goto 29 (dk dt_X12_times 15 rfl) (by decide) ?_
    exact j_el (T_X12_times_29 r_x1 r_x2 r_x4 r_s0 (r64_w _) m   H) (And.intro rfl (And.intro rfl (And.intro rfl (And.intro rfl (And.intro rfl trivial)))))
def F_X12_times  (x1 : Int) (x2 : Int) (x4 : Int) (u : Mu) (P : Mu → Prop) : Prop :=
  (if 0 ≤ x2 then F_X12_times_12 x1 x2 x4 x2 u P else F_X12_times_12 x1 x2 x4 (w64 (-x2)) u P)
theorem T_X12_times  {x1 : Int} {x2 : Int} {x4 : Int} {u : Mu} {P : Mu → Prop} {h : Hp} {g : Nat → Nat} (r_x1 : R32 x1) (r_x2 : R64 x2) (r_x4 : R64 x4) (m : Ms h g u)  (H : F_X12_times x1 x2 x4 u P) : Con mX12_times 2 0 0 [vr (some (g 0)), ii (x1), ll (x2), ll (x4)] h (QMV g P) := by
  refine con_of rfl (Nat.le_of_ble_eq_true rfl) (by decide) ?_
  show J mX12_times 2 0 0 _ 0 [some (vr (some (g 0))), some (ii (x1)), some (ll (x2)), none, some (ll (x4)), none, none, none, none, none] [] h
  unfold F_X12_times at H
  refine j_lload_n (dk dt_X12_times 0 rfl) rfl ?_
  refine j_lconst (v := Int64.ofInt 0) (dk dt_X12_times 1 rfl) (by decide) ?_
  refine jz_lcmp (dk dt_X12_times 2 rfl) r_x2 (by decide) ?_
  refine jz_lif_ge 11 (dk dt_X12_times 3 rfl) (by decide) H (fun H => ?_) (fun H => ?_)
  · refine j_lload_n (dk dt_X12_times 7 rfl) rfl ?_
    exact j_el (T_X12_times_12 r_x1 r_x2 r_x4 r_x2 m   H) (And.intro rfl (And.intro rfl (And.intro rfl (And.intro rfl trivial))))
  · refine j_lload_n (dk dt_X12_times 4 rfl) rfl ?_
    refine jz_lneg (dk dt_X12_times 5 rfl) ?_
    refine j_goto 12 (dk dt_X12_times 6 rfl) (by decide) ?_
    exact j_el (T_X12_times_12 r_x1 r_x2 r_x4 (r64_w _) m   H) (And.intro rfl (And.intro rfl (And.intro rfl (And.intro rfl trivial))))
