def F_X12_comeTogether_93  (x2 : Int) (x3 : Int) (x5 : Int) (x6 : Int) (x7 : Int) (u : Mu) (P : (Int × Mu) ⊕ ((Mu)) → Prop) : Prop :=
  P (.inl (w32 (x7 + 1), u))
theorem T_X12_comeTogether_93  {x2 : Int} {x3 : Int} {x5 : Int} {x6 : Int} {x7 : Int} {u : Mu} {P : (Int × Mu) ⊕ ((Mu)) → Prop} {h : Hp} {g : Nat → Nat} {post : Option Sv ⊕ String → Hp → Prop} (r_x2 : R32 x2) (r_x3 : R32 x3) (r_x5 : R32 x5) (r_x6 : R32 x6) (r_x7 : R32 x7) (m : Ms h g u)  (hl : ∀ (x7 : Int) (u : Mu) (h : Hp), P (.inl (x7, u)) → Ms h g u → R32 x7 → J mX12_comeTogether 6 0 0 post 45 [some (vr (some (g 0))), none, some (ii (x2)), some (ii (x3)), none, some (ii (x5)), some (ii (x6)), some (ii (x7)), none, none] [] h) (he0 : ∀ (u : Mu) (h : Hp), P (.inr u) → Ms h g u → J mX12_comeTogether 6 0 0 post 99 [some (vr (some (g 0))), none, some (ii (x2)), some (ii (x3)), none, some (ii (x5)), some (ii (x6)), none, none, none] [] h) (H : F_X12_comeTogether_93 x2 x3 x5 x6 x7 u P) : J mX12_comeTogether 6 0 0 (post) 93 [some (vr (some (g 0))), none, some (ii (x2)), some (ii (x3)), none, some (ii (x5)), some (ii (x6)), some (ii (x7)), none, none] [] h := by
  unfold F_X12_comeTogether_93 at H
  refine jz_iinc (dk dt_X12_comeTogether 49 rfl) rfl ?_
  refine j_goto 45 (dk dt_X12_comeTogether 50 rfl) (by decide) ?_
  exact j_el (hl _ _ _ H m (r32_w _)) (And.intro rfl (And.intro rfl (And.intro rfl (And.intro rfl (And.intro rfl (And.intro rfl trivial))))))
def L_X12_comeTogether_45  (x2 : Int) (x3 : Int) (x5 : Int) (x6 : Int) (x7 : Int) (u : Mu) (P : (Int × Mu) ⊕ ((Mu)) → Prop) : Prop :=
  F_X12_linesOf x5 x3 u (fun x_51 => (if x_51 ≤ x7 then P (.inr u) else F_X12_lineAt x5 x3 x7 u (fun x_63 => F_X12_isIn x5 x6 x3 x_63 x2 u (fun x_77 => (if x_77 = 0 then F_X12_comeTogether_93 x2 x3 x5 x6 x7 u P else F_X12_putLine (mI u 0 100) x_63 u (fun u_90 => F_X12_comeTogether_93 x2 x3 x5 x6 x7 u_90 P))))))
theorem U_X12_comeTogether_45  {x2 : Int} {x3 : Int} {x5 : Int} {x6 : Int} {x7 : Int} {u : Mu} {P : (Int × Mu) ⊕ ((Mu)) → Prop} {h : Hp} {g : Nat → Nat} {post : Option Sv ⊕ String → Hp → Prop} (r_x2 : R32 x2) (r_x3 : R32 x3) (r_x5 : R32 x5) (r_x6 : R32 x6) (r_x7 : R32 x7) (m : Ms h g u)  (hl : ∀ (x7 : Int) (u : Mu) (h : Hp), P (.inl (x7, u)) → Ms h g u → R32 x7 → J mX12_comeTogether 6 0 0 post 45 [some (vr (some (g 0))), none, some (ii (x2)), some (ii (x3)), none, some (ii (x5)), some (ii (x6)), some (ii (x7)), none, none] [] h) (he0 : ∀ (u : Mu) (h : Hp), P (.inr u) → Ms h g u → J mX12_comeTogether 6 0 0 post 99 [some (vr (some (g 0))), none, some (ii (x2)), some (ii (x3)), none, some (ii (x5)), some (ii (x6)), none, none, none] [] h) (H : L_X12_comeTogether_45 x2 x3 x5 x6 x7 u P) : J mX12_comeTogether 6 0 0 post 45 [some (vr (some (g 0))), none, some (ii (x2)), some (ii (x3)), none, some (ii (x5)), some (ii (x6)), some (ii (x7)), none, none] [] h := by
  unfold L_X12_comeTogether_45 at H
  refine j_iload (dk dt_X12_comeTogether 24 rfl) rfl ?_
  refine j_aload_n (dk dt_X12_comeTogether 25 rfl) rfl ?_
  refine j_iload (dk dt_X12_comeTogether 26 rfl) rfl ?_
  refine j_iload_n (dk dt_X12_comeTogether 27 rfl) rfl ?_
  refine jz_callV2 (dk dt_X12_comeTogether 28 rfl) vl_X12_209 rfl (T_X12_linesOf r_x5 r_x3 m H) m.1.1 rfl (by decide) (Nat.zero_le _) (Nat.zero_le _) (Nat.le_of_ble_eq_true rfl) (fun v_51 h_51 P_51 => ?_)
  obtain ⟨x_51, rfl, r_51, rfl, H⟩ := P_51
  dsimp only [rs]
  refine jz_icmp_ge 99 (dk dt_X12_comeTogether 29 rfl) (by decide) r_x7 r_51 H (fun H => ?_) (fun H => ?_)
  · exact j_el (he0 _ _ H m) (And.intro rfl (And.intro rfl (And.intro rfl (And.intro rfl (And.intro rfl trivial)))))
  · refine j_aload_n (dk dt_X12_comeTogether 30 rfl) rfl ?_
    refine j_iload (dk dt_X12_comeTogether 31 rfl) rfl ?_
    refine j_iload_n (dk dt_X12_comeTogether 32 rfl) rfl ?_
    refine j_iload (dk dt_X12_comeTogether 33 rfl) rfl ?_
    refine jz_callV3 (dk dt_X12_comeTogether 34 rfl) vl_X12_213 rfl (T_X12_lineAt r_x5 r_x3 r_x7 m H) m.1.1 rfl (by decide) (Nat.zero_le _) (Nat.zero_le _) (Nat.le_of_ble_eq_true rfl) (fun v_63 h_63 P_63 => ?_)
    obtain ⟨x_63, rfl, r_63, rfl, H⟩ := P_63
    dsimp only [rs]
    refine j_istore (dk dt_X12_comeTogether 35 rfl) (by decide) ?_
    refine j_aload_n (dk dt_X12_comeTogether 36 rfl) rfl ?_
    refine j_iload (dk dt_X12_comeTogether 37 rfl) rfl ?_
    refine j_iload (dk dt_X12_comeTogether 38 rfl) rfl ?_
    refine j_iload_n (dk dt_X12_comeTogether 39 rfl) rfl ?_
    refine j_iload (dk dt_X12_comeTogether 40 rfl) rfl ?_
    refine j_iload_n (dk dt_X12_comeTogether 41 rfl) rfl ?_
    refine jz_callV5 (dk dt_X12_comeTogether 42 rfl) vl_X12_900 rfl (T_X12_isIn r_x5 r_x6 r_x3 r_63 r_x2 m H) m.1.1 rfl (by decide) (Nat.zero_le _) (Nat.zero_le _) (Nat.le_of_ble_eq_true rfl) (fun v_77 h_77 P_77 => ?_)
    obtain ⟨x_77, rfl, r_77, rfl, H⟩ := P_77
    dsimp only [rs]
    refine jz_if_eq 93 (dk dt_X12_comeTogether 43 rfl) (by decide) r_77 H (fun H => ?_) (fun H => ?_)
    · exact j_el (T_X12_comeTogether_93 r_x2 r_x3 r_x5 r_x6 r_x7 m  hl he0 H) (And.intro rfl (And.intro rfl (And.intro rfl (And.intro rfl (And.intro rfl (And.intro rfl trivial))))))
    · refine j_aload_n (dk dt_X12_comeTogether 44 rfl) rfl ?_
      refine j_aload_n (dk dt_X12_comeTogether 45 rfl) rfl ?_
      refine jm_getI (kz := 100) (dk dt_X12_comeTogether 46 rfl) fl_X12_894 rfl rfl m ?_
      refine j_iload (dk dt_X12_comeTogether 47 rfl) rfl ?_
      refine jz_callV2 (dk dt_X12_comeTogether 48 rfl) vl_X12_904 rfl (T_X12_putLine (m.2.1.1 _ _) r_63 m H) m.1.1 rfl (by decide) (Nat.zero_le _) (Nat.zero_le _) (Nat.le_of_ble_eq_true rfl) (fun v_90 h_90 P_90 => ?_)
      obtain ⟨u_90, rfl, m_90, H⟩ := P_90
      dsimp only [rs]
      exact j_el (T_X12_comeTogether_93 r_x2 r_x3 r_x5 r_x6 r_x7 m_90  hl he0 H) (And.intro rfl (And.intro rfl (And.intro rfl (And.intro rfl (And.intro rfl (And.intro rfl trivial))))))
def F_X12_comeTogether_215  (x2 : Int) (x3 : Int) (x5 : Int) (x6 : Int) (x7 : Int) (u : Mu) (P : (Int × Mu) ⊕ ((Mu)) → Prop) : Prop :=
  P (.inl (w32 (x7 + 1), u))
theorem T_X12_comeTogether_215  {x2 : Int} {x3 : Int} {x5 : Int} {x6 : Int} {x7 : Int} {u : Mu} {P : (Int × Mu) ⊕ ((Mu)) → Prop} {h : Hp} {g : Nat → Nat} {post : Option Sv ⊕ String → Hp → Prop} (r_x2 : R32 x2) (r_x3 : R32 x3) (r_x5 : R32 x5) (r_x6 : R32 x6) (r_x7 : R32 x7) (m : Ms h g u)  (hl : ∀ (x7 : Int) (u : Mu) (h : Hp), P (.inl (x7, u)) → Ms h g u → R32 x7 → J mX12_comeTogether 6 0 0 post 102 [some (vr (some (g 0))), none, some (ii (x2)), some (ii (x3)), none, some (ii (x5)), some (ii (x6)), some (ii (x7)), none, none] [] h) (he0 : ∀ (u : Mu) (h : Hp), P (.inr u) → Ms h g u → J mX12_comeTogether 6 0 0 post 221 [none, none, none, none, none, none, none, none, none, none] [] h) (H : F_X12_comeTogether_215 x2 x3 x5 x6 x7 u P) : J mX12_comeTogether 6 0 0 (post) 215 [some (vr (some (g 0))), none, some (ii (x2)), some (ii (x3)), none, some (ii (x5)), some (ii (x6)), some (ii (x7)), none, none] [] h := by
  unfold F_X12_comeTogether_215 at H
  refine jz_iinc (dk dt_X12_comeTogether 111 rfl) rfl ?_
  refine j_goto 102 (dk dt_X12_comeTogether 112 rfl) (by decide) ?_
  exact j_el (hl _ _ _ H m (r32_w _)) (And.intro rfl (And.intro rfl (And.intro rfl (And.intro rfl (And.intro rfl (And.intro rfl trivial))))))
def L_X12_comeTogether_158  (x2 : Int) (x3 : Int) (x5 : Int) (x6 : Int) (x7 : Int) (x8 : Int) (x9 : Int) (u : Mu) (P : Int ⊕ ((Int)) → Prop) : Prop :=
  (if x9 < 0 then P (.inr x9) else F_X12_lineAt x6 x3 x9 u (fun x_170 => F_X12_lineOf x_170 u (fun x_173 => (if 0 ≤ x_173 then P (.inr x9) else P (.inl (w32 (x9 + (-1))))))))
theorem U_X12_comeTogether_158  {x2 : Int} {x3 : Int} {x5 : Int} {x6 : Int} {x7 : Int} {x8 : Int} {x9 : Int} {u : Mu} {P : Int ⊕ ((Int)) → Prop} {h : Hp} {g : Nat → Nat} {post : Option Sv ⊕ String → Hp → Prop} (r_x2 : R32 x2) (r_x3 : R32 x3) (r_x5 : R32 x5) (r_x6 : R32 x6) (r_x7 : R32 x7) (r_x8 : R32 x8) (r_x9 : R32 x9) (m : Ms h g u)  (hl : ∀ (x9 : Int), P (.inl x9) → R32 x9 → J mX12_comeTogether 6 0 0 post 158 [some (vr (some (g 0))), none, some (ii (x2)), some (ii (x3)), none, some (ii (x5)), some (ii (x6)), some (ii (x7)), some (ii (x8)), some (ii (x9))] [] h) (he0 : ∀ (x9 : Int), P (.inr x9) → R32 x9 → J mX12_comeTogether 6 0 0 post 185 [some (vr (some (g 0))), none, some (ii (x2)), some (ii (x3)), none, some (ii (x5)), some (ii (x6)), some (ii (x7)), some (ii (x8)), some (ii (x9))] [] h) (H : L_X12_comeTogether_158 x2 x3 x5 x6 x7 x8 x9 u P) : J mX12_comeTogether 6 0 0 post 158 [some (vr (some (g 0))), none, some (ii (x2)), some (ii (x3)), none, some (ii (x5)), some (ii (x6)), some (ii (x7)), some (ii (x8)), some (ii (x9))] [] h := by
  unfold L_X12_comeTogether_158 at H
  refine j_iload (dk dt_X12_comeTogether 83 rfl) rfl ?_
  refine jz_if_lt 185 (dk dt_X12_comeTogether 84 rfl) (by decide) r_x9 H (fun H => ?_) (fun H => ?_)
  · exact j_el (he0 _ H r_x9) (And.intro rfl (And.intro rfl (And.intro rfl (And.intro rfl (And.intro rfl (And.intro rfl (And.intro rfl (And.intro rfl trivial))))))))
  · refine j_aload_n (dk dt_X12_comeTogether 85 rfl) rfl ?_
    refine j_aload_n (dk dt_X12_comeTogether 86 rfl) rfl ?_
    refine j_iload (dk dt_X12_comeTogether 87 rfl) rfl ?_
    refine j_iload_n (dk dt_X12_comeTogether 88 rfl) rfl ?_
    refine j_iload (dk dt_X12_comeTogether 89 rfl) rfl ?_
    refine jz_callV3 (dk dt_X12_comeTogether 90 rfl) vl_X12_213 rfl (T_X12_lineAt r_x6 r_x3 r_x9 m H) m.1.1 rfl (by decide) (Nat.zero_le _) (Nat.zero_le _) (Nat.le_of_ble_eq_true rfl) (fun v_170 h_170 P_170 => ?_)
    obtain ⟨x_170, rfl, r_170, rfl, H⟩ := P_170
    dsimp only [rs]
    refine jz_callV1 (dk dt_X12_comeTogether 91 rfl) vl_X12_907 rfl (T_X12_lineOf r_170 m H) m.1.1 rfl (by decide) (Nat.zero_le _) (Nat.zero_le _) (Nat.le_of_ble_eq_true rfl) (fun v_173 h_173 P_173 => ?_)
    obtain ⟨x_173, rfl, r_173, rfl, H⟩ := P_173
    dsimp only [rs]
    refine jz_if_ge 185 (dk dt_X12_comeTogether 92 rfl) (by decide) r_173 H (fun H => ?_) (fun H => ?_)
    · exact j_el (he0 _ H r_x9) (And.intro rfl (And.intro rfl (And.intro rfl (And.intro rfl (And.intro rfl (And.intro rfl (And.intro rfl (And.intro rfl trivial))))))))
    · refine jz_iinc (dk dt_X12_comeTogether 93 rfl) rfl ?_
      refine j_goto 158 (dk dt_X12_comeTogether 94 rfl) (by decide) ?_
      exact j_el (hl _ H (r32_w _)) (And.intro rfl (And.intro rfl (And.intro rfl (And.intro rfl (And.intro rfl (And.intro rfl (And.intro rfl (And.intro rfl trivial))))))))
def F_X12_comeTogether_210  (x2 : Int) (x3 : Int) (x5 : Int) (x6 : Int) (x7 : Int) (x8 : Int) (s1 : Int) (u : Mu) (P : (Int × Mu) ⊕ ((Mu)) → Prop) : Prop :=
  F_X12_putLine s1 x8 u (fun u_212 => F_X12_comeTogether_215 x2 x3 x5 x6 x7 u_212 P)
theorem T_X12_comeTogether_210  {x2 : Int} {x3 : Int} {x5 : Int} {x6 : Int} {x7 : Int} {x8 : Int} {s1 : Int} {u : Mu} {P : (Int × Mu) ⊕ ((Mu)) → Prop} {h : Hp} {g : Nat → Nat} {post : Option Sv ⊕ String → Hp → Prop} (r_x2 : R32 x2) (r_x3 : R32 x3) (r_x5 : R32 x5) (r_x6 : R32 x6) (r_x7 : R32 x7) (r_x8 : R32 x8) (r_s1 : R32 s1) (m : Ms h g u)  (hl : ∀ (x7 : Int) (u : Mu) (h : Hp), P (.inl (x7, u)) → Ms h g u → R32 x7 → J mX12_comeTogether 6 0 0 post 102 [some (vr (some (g 0))), none, some (ii (x2)), some (ii (x3)), none, some (ii (x5)), some (ii (x6)), some (ii (x7)), none, none] [] h) (he0 : ∀ (u : Mu) (h : Hp), P (.inr u) → Ms h g u → J mX12_comeTogether 6 0 0 post 221 [none, none, none, none, none, none, none, none, none, none] [] h) (H : F_X12_comeTogether_210 x2 x3 x5 x6 x7 x8 s1 u P) : J mX12_comeTogether 6 0 0 (post) 210 [some (vr (some (g 0))), none, some (ii (x2)), some (ii (x3)), none, some (ii (x5)), some (ii (x6)), some (ii (x7)), some (ii (x8)), none] [ii (s1), vr (some (g 0))] h := by
  unfold F_X12_comeTogether_210 at H
  refine j_iload (dk dt_X12_comeTogether 109 rfl) rfl ?_
  refine jz_callV2 (dk dt_X12_comeTogether 110 rfl) vl_X12_904 rfl (T_X12_putLine r_s1 r_x8 m H) m.1.1 rfl (by decide) (Nat.zero_le _) (Nat.zero_le _) (Nat.le_of_ble_eq_true rfl) (fun v_212 h_212 P_212 => ?_)
  obtain ⟨u_212, rfl, m_212, H⟩ := P_212
  dsimp only [rs]
  exact j_el (T_X12_comeTogether_215 r_x2 r_x3 r_x5 r_x6 r_x7 m_212  hl he0 H) (And.intro rfl (And.intro rfl (And.intro rfl (And.intro rfl (And.intro rfl (And.intro rfl trivial))))))
def F_X12_comeTogether_185  (x2 : Int) (x3 : Int) (x5 : Int) (x6 : Int) (x7 : Int) (x8 : Int) (x9 : Int) (u : Mu) (P : (Int × Mu) ⊕ ((Mu)) → Prop) : Prop :=
  (if 0 ≤ x9 then F_X12_lineAt x6 x3 x9 u (fun x_202 => F_X12_lineOf x_202 u (fun x_205 => F_X12_comeTogether_210 x2 x3 x5 x6 x7 x8 (w32 (x_205 + 1)) u P)) else F_X12_comeTogether_210 x2 x3 x5 x6 x7 x8 0 u P)
theorem T_X12_comeTogether_185  {x2 : Int} {x3 : Int} {x5 : Int} {x6 : Int} {x7 : Int} {x8 : Int} {x9 : Int} {u : Mu} {P : (Int × Mu) ⊕ ((Mu)) → Prop} {h : Hp} {g : Nat → Nat} {post : Option Sv ⊕ String → Hp → Prop} (r_x2 : R32 x2) (r_x3 : R32 x3) (r_x5 : R32 x5) (r_x6 : R32 x6) (r_x7 : R32 x7) (r_x8 : R32 x8) (r_x9 : R32 x9) (m : Ms h g u)  (hl : ∀ (x7 : Int) (u : Mu) (h : Hp), P (.inl (x7, u)) → Ms h g u → R32 x7 → J mX12_comeTogether 6 0 0 post 102 [some (vr (some (g 0))), none, some (ii (x2)), some (ii (x3)), none, some (ii (x5)), some (ii (x6)), some (ii (x7)), none, none] [] h) (he0 : ∀ (u : Mu) (h : Hp), P (.inr u) → Ms h g u → J mX12_comeTogether 6 0 0 post 221 [none, none, none, none, none, none, none, none, none, none] [] h) (H : F_X12_comeTogether_185 x2 x3 x5 x6 x7 x8 x9 u P) : J mX12_comeTogether 6 0 0 (post) 185 [some (vr (some (g 0))), none, some (ii (x2)), some (ii (x3)), none, some (ii (x5)), some (ii (x6)), some (ii (x7)), some (ii (x8)), some (ii (x9))] [] h := by
  unfold F_X12_comeTogether_185 at H
  refine j_aload_n (dk dt_X12_comeTogether 95 rfl) rfl ?_
  refine j_iload (dk dt_X12_comeTogether 96 rfl) rfl ?_
  refine jz_if_ge 195 (dk dt_X12_comeTogether 97 rfl) (by decide) r_x9 H (fun H => ?_) (fun H => ?_)
  · refine j_aload_n (dk dt_X12_comeTogether 100 rfl) rfl ?_
    refine j_aload_n (dk dt_X12_comeTogether 101 rfl) rfl ?_
    refine j_iload (dk dt_X12_comeTogether 102 rfl) rfl ?_
    refine j_iload_n (dk dt_X12_comeTogether 103 rfl) rfl ?_
    refine j_iload (dk dt_X12_comeTogether 104 rfl) rfl ?_
    refine jz_callV3 (dk dt_X12_comeTogether 105 rfl) vl_X12_213 rfl (T_X12_lineAt r_x6 r_x3 r_x9 m H) m.1.1 rfl (by decide) (Nat.zero_le _) (Nat.zero_le _) (Nat.le_of_ble_eq_true rfl) (fun v_202 h_202 P_202 => ?_)
    obtain ⟨x_202, rfl, r_202, rfl, H⟩ := P_202
    dsimp only [rs]
    refine jz_callV1 (dk dt_X12_comeTogether 106 rfl) vl_X12_907 rfl (T_X12_lineOf r_202 m H) m.1.1 rfl (by decide) (Nat.zero_le _) (Nat.zero_le _) (Nat.le_of_ble_eq_true rfl) (fun v_205 h_205 P_205 => ?_)
    obtain ⟨x_205, rfl, r_205, rfl, H⟩ := P_205
    dsimp only [rs]
    refine j_iconst (v := Int32.ofInt 1) (dk dt_X12_comeTogether 107 rfl) (by decide) ?_
    refine jz_iadd (dk dt_X12_comeTogether 108 rfl) ?_
    exact j_el (T_X12_comeTogether_210 r_x2 r_x3 r_x5 r_x6 r_x7 r_x8 (r32_w _) m  hl he0 H) (And.intro rfl (And.intro rfl (And.intro rfl (And.intro rfl (And.intro rfl (And.intro rfl (And.intro rfl trivial)))))))
  · refine j_iconst (v := Int32.ofInt 0) (dk dt_X12_comeTogether 98 rfl) (by decide) ?_
    refine j_goto 210 (dk dt_X12_comeTogether 99 rfl) (by decide) ?_
    exact j_el (T_X12_comeTogether_210 r_x2 r_x3 r_x5 r_x6 r_x7 r_x8 (by decide) m  hl he0 H) (And.intro rfl (And.intro rfl (And.intro rfl (And.intro rfl (And.intro rfl (And.intro rfl (And.intro rfl trivial)))))))
def F_X12_comeTogether_158  (x2 : Int) (x3 : Int) (x5 : Int) (x6 : Int) (x7 : Int) (x8 : Int) (x9 : Int) (u : Mu) (P : (Int × Mu) ⊕ ((Mu)) → Prop) : Prop :=
  lp (S := Int) (E := (Int)) (fun q P_ => L_X12_comeTogether_158 x2 x3 x5 x6 x7 x8 q u P_) x9 (fun (x9 : Int) => F_X12_comeTogether_185 x2 x3 x5 x6 x7 x8 x9 u P)
theorem T_X12_comeTogether_158  {x2 : Int} {x3 : Int} {x5 : Int} {x6 : Int} {x7 : Int} {x8 : Int} {x9 : Int} {u : Mu} {P : (Int × Mu) ⊕ ((Mu)) → Prop} {h : Hp} {g : Nat → Nat} {post : Option Sv ⊕ String → Hp → Prop} (r_x2 : R32 x2) (r_x3 : R32 x3) (r_x5 : R32 x5) (r_x6 : R32 x6) (r_x7 : R32 x7) (r_x8 : R32 x8) (r_x9 : R32 x9) (m : Ms h g u)  (hl : ∀ (x7 : Int) (u : Mu) (h : Hp), P (.inl (x7, u)) → Ms h g u → R32 x7 → J mX12_comeTogether 6 0 0 post 102 [some (vr (some (g 0))), none, some (ii (x2)), some (ii (x3)), none, some (ii (x5)), some (ii (x6)), some (ii (x7)), none, none] [] h) (he0 : ∀ (u : Mu) (h : Hp), P (.inr u) → Ms h g u → J mX12_comeTogether 6 0 0 post 221 [none, none, none, none, none, none, none, none, none, none] [] h) (H : F_X12_comeTogether_158 x2 x3 x5 x6 x7 x8 x9 u P) : J mX12_comeTogether 6 0 0 (post) 158 [some (vr (some (g 0))), none, some (ii (x2)), some (ii (x3)), none, some (ii (x5)), some (ii (x6)), some (ii (x7)), some (ii (x8)), some (ii (x9))] [] h := by
  unfold F_X12_comeTogether_158 at H
  refine lp_J (G := fun q => R32 (q) → J mX12_comeTogether 6 0 0 (post) 158 [some (vr (some (g 0))), none, some (ii (x2)), some (ii (x3)), none, some (ii (x5)), some (ii (x6)), some (ii (x7)), some (ii (x8)), some (ii ((q)))] [] h) (fun x9 P_ hl_ he_ Hb => ?_) x9 H r_x9
  intro r_x9
  refine U_X12_comeTogether_158 (P := P_) r_x2 r_x3 r_x5 r_x6 r_x7 r_x8 r_x9 m  (fun x9 Hp r_x9 => hl_ x9 Hp r_x9) ?_ Hb
  · intro x9 Hp r_x9
    have H := he_ _ Hp
    exact j_el (T_X12_comeTogether_185 r_x2 r_x3 r_x5 r_x6 r_x7 r_x8 r_x9 m  hl he0 H) (And.intro rfl (And.intro rfl (And.intro rfl (And.intro rfl (And.intro rfl (And.intro rfl (And.intro rfl (And.intro rfl trivial))))))))
def L_X12_comeTogether_102  (x2 : Int) (x3 : Int) (x5 : Int) (x6 : Int) (x7 : Int) (u : Mu) (P : (Int × Mu) ⊕ ((Mu)) → Prop) : Prop :=
  F_X12_linesOf x6 x3 u (fun x_108 => (if x_108 ≤ x7 then P (.inr u) else F_X12_lineAt x6 x3 x7 u (fun x_120 => F_X12_placeOf x5 x3 x_120 u (fun x_131 => (if 0 ≤ x_131 then F_X12_comeTogether_215 x2 x3 x5 x6 x7 u P else F_X12_isIn x6 x5 x3 x_120 x2 u (fun x_146 => (if x_146 = 0 then F_X12_comeTogether_215 x2 x3 x5 x6 x7 u P else F_X12_comeTogether_158 x2 x3 x5 x6 x7 x_120 (w32 (x7 - 1)) u P)))))))
theorem U_X12_comeTogether_102  {x2 : Int} {x3 : Int} {x5 : Int} {x6 : Int} {x7 : Int} {u : Mu} {P : (Int × Mu) ⊕ ((Mu)) → Prop} {h : Hp} {g : Nat → Nat} {post : Option Sv ⊕ String → Hp → Prop} (r_x2 : R32 x2) (r_x3 : R32 x3) (r_x5 : R32 x5) (r_x6 : R32 x6) (r_x7 : R32 x7) (m : Ms h g u)  (hl : ∀ (x7 : Int) (u : Mu) (h : Hp), P (.inl (x7, u)) → Ms h g u → R32 x7 → J mX12_comeTogether 6 0 0 post 102 [some (vr (some (g 0))), none, some (ii (x2)), some (ii (x3)), none, some (ii (x5)), some (ii (x6)), some (ii (x7)), none, none] [] h) (he0 : ∀ (u : Mu) (h : Hp), P (.inr u) → Ms h g u → J mX12_comeTogether 6 0 0 post 221 [none, none, none, none, none, none, none, none, none, none] [] h) (H : L_X12_comeTogether_102 x2 x3 x5 x6 x7 u P) : J mX12_comeTogether 6 0 0 post 102 [some (vr (some (g 0))), none, some (ii (x2)), some (ii (x3)), none, some (ii (x5)), some (ii (x6)), some (ii (x7)), none, none] [] h := by
  unfold L_X12_comeTogether_102 at H
  refine j_iload (dk dt_X12_comeTogether 53 rfl) rfl ?_
  refine j_aload_n (dk dt_X12_comeTogether 54 rfl) rfl ?_
  refine j_iload (dk dt_X12_comeTogether 55 rfl) rfl ?_
  refine j_iload_n (dk dt_X12_comeTogether 56 rfl) rfl ?_
  refine jz_callV2 (dk dt_X12_comeTogether 57 rfl) vl_X12_209 rfl (T_X12_linesOf r_x6 r_x3 m H) m.1.1 rfl (by decide) (Nat.zero_le _) (Nat.zero_le _) (Nat.le_of_ble_eq_true rfl) (fun v_108 h_108 P_108 => ?_)
  obtain ⟨x_108, rfl, r_108, rfl, H⟩ := P_108
  dsimp only [rs]
  refine jz_icmp_ge 221 (dk dt_X12_comeTogether 58 rfl) (by decide) r_x7 r_108 H (fun H => ?_) (fun H => ?_)
  · exact j_el (he0 _ _ H m) trivial
  · refine j_aload_n (dk dt_X12_comeTogether 59 rfl) rfl ?_
    refine j_iload (dk dt_X12_comeTogether 60 rfl) rfl ?_
    refine j_iload_n (dk dt_X12_comeTogether 61 rfl) rfl ?_
    refine j_iload (dk dt_X12_comeTogether 62 rfl) rfl ?_
    refine jz_callV3 (dk dt_X12_comeTogether 63 rfl) vl_X12_213 rfl (T_X12_lineAt r_x6 r_x3 r_x7 m H) m.1.1 rfl (by decide) (Nat.zero_le _) (Nat.zero_le _) (Nat.le_of_ble_eq_true rfl) (fun v_120 h_120 P_120 => ?_)
    obtain ⟨x_120, rfl, r_120, rfl, H⟩ := P_120
    dsimp only [rs]
    refine j_istore (dk dt_X12_comeTogether 64 rfl) (by decide) ?_
    refine j_aload_n (dk dt_X12_comeTogether 65 rfl) rfl ?_
    refine j_iload (dk dt_X12_comeTogether 66 rfl) rfl ?_
    refine j_iload_n (dk dt_X12_comeTogether 67 rfl) rfl ?_
    refine j_iload (dk dt_X12_comeTogether 68 rfl) rfl ?_
    refine jz_callV3 (dk dt_X12_comeTogether 69 rfl) vl_X12_217 rfl (T_X12_placeOf r_x5 r_x3 r_120 m H) m.1.1 rfl (by decide) (Nat.zero_le _) (Nat.zero_le _) (Nat.le_of_ble_eq_true rfl) (fun v_131 h_131 P_131 => ?_)
    obtain ⟨x_131, rfl, r_131, rfl, H⟩ := P_131
    dsimp only [rs]
    refine jz_if_ge 215 (dk dt_X12_comeTogether 70 rfl) (by decide) r_131 H (fun H => ?_) (fun H => ?_)
    · exact j_el (T_X12_comeTogether_215 r_x2 r_x3 r_x5 r_x6 r_x7 m  hl he0 H) (And.intro rfl (And.intro rfl (And.intro rfl (And.intro rfl (And.intro rfl (And.intro rfl trivial))))))
    · refine j_aload_n (dk dt_X12_comeTogether 71 rfl) rfl ?_
      refine j_iload (dk dt_X12_comeTogether 72 rfl) rfl ?_
      refine j_iload (dk dt_X12_comeTogether 73 rfl) rfl ?_
      refine j_iload_n (dk dt_X12_comeTogether 74 rfl) rfl ?_
      refine j_iload (dk dt_X12_comeTogether 75 rfl) rfl ?_
      refine j_iload_n (dk dt_X12_comeTogether 76 rfl) rfl ?_
      refine jz_callV5 (dk dt_X12_comeTogether 77 rfl) vl_X12_900 rfl (T_X12_isIn r_x6 r_x5 r_x3 r_120 r_x2 m H) m.1.1 rfl (by decide) (Nat.zero_le _) (Nat.zero_le _) (Nat.le_of_ble_eq_true rfl) (fun v_146 h_146 P_146 => ?_)
      obtain ⟨x_146, rfl, r_146, rfl, H⟩ := P_146
      dsimp only [rs]
      refine jz_if_eq 215 (dk dt_X12_comeTogether 78 rfl) (by decide) r_146 H (fun H => ?_) (fun H => ?_)
      · exact j_el (T_X12_comeTogether_215 r_x2 r_x3 r_x5 r_x6 r_x7 m  hl he0 H) (And.intro rfl (And.intro rfl (And.intro rfl (And.intro rfl (And.intro rfl (And.intro rfl trivial))))))
      · refine j_iload (dk dt_X12_comeTogether 79 rfl) rfl ?_
        refine j_iconst (v := Int32.ofInt 1) (dk dt_X12_comeTogether 80 rfl) (by decide) ?_
        refine jz_isub (dk dt_X12_comeTogether 81 rfl) ?_
        refine j_istore (dk dt_X12_comeTogether 82 rfl) (by decide) ?_
        exact j_el (T_X12_comeTogether_158 r_x2 r_x3 r_x5 r_x6 r_x7 r_120 (r32_w _) m  hl he0 H) (And.intro rfl (And.intro rfl (And.intro rfl (And.intro rfl (And.intro rfl (And.intro rfl (And.intro rfl (And.intro rfl trivial))))))))
def F_X12_comeTogether_102  (x2 : Int) (x3 : Int) (x5 : Int) (x6 : Int) (x7 : Int) (u : Mu) (P : Mu → Prop) : Prop :=
  lp (S := Int × Mu) (E := (Mu)) (fun q P_ => L_X12_comeTogether_102 x2 x3 x5 x6 q.1 q.2 P_) (x7, u) (fun (u : Mu) => P u)
theorem T_X12_comeTogether_102  {x2 : Int} {x3 : Int} {x5 : Int} {x6 : Int} {x7 : Int} {u : Mu} {P : Mu → Prop} {h : Hp} {g : Nat → Nat} (r_x2 : R32 x2) (r_x3 : R32 x3) (r_x5 : R32 x5) (r_x6 : R32 x6) (r_x7 : R32 x7) (m : Ms h g u)   (H : F_X12_comeTogether_102 x2 x3 x5 x6 x7 u P) : J mX12_comeTogether 6 0 0 (nx (QMV g P)) 102 [some (vr (some (g 0))), none, some (ii (x2)), some (ii (x3)), none, some (ii (x5)), some (ii (x6)), some (ii (x7)), none, none] [] h := by
  unfold F_X12_comeTogether_102 at H
  refine lp_J (G := fun q => ∀ h : Hp, Ms h g (q.2) → R32 (q.1) → J mX12_comeTogether 6 0 0 (nx (QMV g P)) 102 [some (vr (some (g 0))), none, some (ii (x2)), some (ii (x3)), none, some (ii (x5)), some (ii (x6)), some (ii ((q.1))), none, none] [] h) (fun q P_ hl_ he_ Hb => ?_) (x7, u) H _ m r_x7
  obtain ⟨x7, u⟩ := q
  intro h m r_x7
  refine U_X12_comeTogether_102 (P := P_) r_x2 r_x3 r_x5 r_x6 r_x7 m  (fun x7 u h Hp m r_x7 => hl_ (x7, u) Hp h m r_x7) ?_ Hb
  · intro u h Hp m
    have H := he_ _ Hp
    exact j_return (dk dt_X12_comeTogether 113 rfl) rfl ⟨_, rfl, m, H⟩
def F_X12_comeTogether_45  (x2 : Int) (x3 : Int) (x5 : Int) (x6 : Int) (x7 : Int) (u : Mu) (P : Mu → Prop) : Prop :=
  lp (S := Int × Mu) (E := (Mu)) (fun q P_ => L_X12_comeTogether_45 x2 x3 x5 x6 q.1 q.2 P_) (x7, u) (fun (u : Mu) => F_X12_comeTogether_102 x2 x3 x5 x6 0 u P)
theorem T_X12_comeTogether_45  {x2 : Int} {x3 : Int} {x5 : Int} {x6 : Int} {x7 : Int} {u : Mu} {P : Mu → Prop} {h : Hp} {g : Nat → Nat} (r_x2 : R32 x2) (r_x3 : R32 x3) (r_x5 : R32 x5) (r_x6 : R32 x6) (r_x7 : R32 x7) (m : Ms h g u)   (H : F_X12_comeTogether_45 x2 x3 x5 x6 x7 u P) : J mX12_comeTogether 6 0 0 (nx (QMV g P)) 45 [some (vr (some (g 0))), none, some (ii (x2)), some (ii (x3)), none, some (ii (x5)), some (ii (x6)), some (ii (x7)), none, none] [] h := by
  unfold F_X12_comeTogether_45 at H
  refine lp_J (G := fun q => ∀ h : Hp, Ms h g (q.2) → R32 (q.1) → J mX12_comeTogether 6 0 0 (nx (QMV g P)) 45 [some (vr (some (g 0))), none, some (ii (x2)), some (ii (x3)), none, some (ii (x5)), some (ii (x6)), some (ii ((q.1))), none, none] [] h) (fun q P_ hl_ he_ Hb => ?_) (x7, u) H _ m r_x7
  obtain ⟨x7, u⟩ := q
  intro h m r_x7
  refine U_X12_comeTogether_45 (P := P_) r_x2 r_x3 r_x5 r_x6 r_x7 m  (fun x7 u h Hp m r_x7 => hl_ (x7, u) Hp h m r_x7) ?_ Hb
  · intro u h Hp m
    have H := he_ _ Hp
    refine j_iconst (v := Int32.ofInt 0) (dk dt_X12_comeTogether 51 rfl) (by decide) ?_
    refine j_istore (dk dt_X12_comeTogether 52 rfl) (by decide) ?_
    exact j_el (T_X12_comeTogether_102 r_x2 r_x3 r_x5 r_x6 (by decide) m   H) (And.intro rfl (And.intro rfl (And.intro rfl (And.intro rfl (And.intro rfl (And.intro rfl trivial))))))
def F_X12_comeTogether_35  (x2 : Int) (x3 : Int) (x5 : Int) (s0 : Int) (u : Mu) (P : Mu → Prop) : Prop :=
  (∀ u_39, u_39 = uI u 0 100 0 → F_X12_comeTogether_45 x2 x3 x5 s0 0 u_39 P)
theorem T_X12_comeTogether_35  {x2 : Int} {x3 : Int} {x5 : Int} {s0 : Int} {u : Mu} {P : Mu → Prop} {h : Hp} {g : Nat → Nat} (r_x2 : R32 x2) (r_x3 : R32 x3) (r_x5 : R32 x5) (r_s0 : R32 s0) (m : Ms h g u)   (H : F_X12_comeTogether_35 x2 x3 x5 s0 u P) : J mX12_comeTogether 6 0 0 (nx (QMV g P)) 35 [some (vr (some (g 0))), none, some (ii (x2)), some (ii (x3)), none, some (ii (x5)), none, none, none, none] [ii (s0)] h := by
  unfold F_X12_comeTogether_35 at H
  refine j_istore (dk dt_X12_comeTogether 18 rfl) (by decide) ?_
  refine j_aload_n (dk dt_X12_comeTogether 19 rfl) rfl ?_
  refine j_iconst (v := Int32.ofInt 0) (dk dt_X12_comeTogether 20 rfl) (by decide) ?_
  refine jm_putI (kz := 100) (dk dt_X12_comeTogether 21 rfl) fl_X12_894 rfl rfl rfl rfl m (by decide) (fun h_39 m_39 => ?_)
  replace H := H _ rfl
  refine j_iconst (v := Int32.ofInt 0) (dk dt_X12_comeTogether 22 rfl) (by decide) ?_
  refine j_istore (dk dt_X12_comeTogether 23 rfl) (by decide) ?_
  exact j_el (T_X12_comeTogether_45 r_x2 r_x3 r_x5 r_s0 (by decide) m_39   H) (And.intro rfl (And.intro rfl (And.intro rfl (And.intro rfl (And.intro rfl (And.intro rfl trivial))))))
def F_X12_comeTogether_22  (x1 : Int) (x2 : Int) (x3 : Int) (x4 : Int) (s0 : Int) (u : Mu) (P : Mu → Prop) : Prop :=
  (if x4 = 0 then F_X12_comeTogether_35 x2 x3 s0 x1 u P else F_X12_comeTogether_35 x2 x3 s0 40 u P)
theorem T_X12_comeTogether_22  {x1 : Int} {x2 : Int} {x3 : Int} {x4 : Int} {s0 : Int} {u : Mu} {P : Mu → Prop} {h : Hp} {g : Nat → Nat} (r_x1 : R32 x1) (r_x2 : R32 x2) (r_x3 : R32 x3) (r_x4 : R32 x4) (r_s0 : R32 s0) (m : Ms h g u)   (H : F_X12_comeTogether_22 x1 x2 x3 x4 s0 u P) : J mX12_comeTogether 6 0 0 (nx (QMV g P)) 22 [some (vr (some (g 0))), some (ii (x1)), some (ii (x2)), some (ii (x3)), some (ii (x4)), none, none, none, none, none] [ii (s0)] h := by
  unfold F_X12_comeTogether_22 at H
  refine j_istore (dk dt_X12_comeTogether 12 rfl) (by decide) ?_
  refine j_iload (dk dt_X12_comeTogether 13 rfl) rfl ?_
  refine jz_if_eq 34 (dk dt_X12_comeTogether 14 rfl) (by decide) r_x4 H (fun H => ?_) (fun H => ?_)
  · refine j_iload_n (dk dt_X12_comeTogether 17 rfl) rfl ?_
    exact j_el (T_X12_comeTogether_35 r_x2 r_x3 r_s0 r_x1 m   H) (And.intro rfl (And.intro rfl (And.intro rfl (And.intro rfl trivial))))
  · refine j_bipush (v := Int32.ofInt 40) (dk dt_X12_comeTogether 15 rfl) (by decide) ?_
    refine j_goto 35 (dk dt_X12_comeTogether 16 rfl) (by decide) ?_
    exact j_el (T_X12_comeTogether_35 r_x2 r_x3 r_s0 (by decide) m   H) (And.intro rfl (And.intro rfl (And.intro rfl (And.intro rfl trivial))))
def F_X12_comeTogether  (x1 : Int) (x2 : Int) (x3 : Int) (u : Mu) (P : Mu → Prop) : Prop :=
  F_X12_sameOrder 40 x2 x1 x3 u (fun x_6 => (if x_6 = 0 then F_X12_comeTogether_22 x1 x2 x3 x_6 40 u P else F_X12_comeTogether_22 x1 x2 x3 x_6 x1 u P))
theorem T_X12_comeTogether  {x1 : Int} {x2 : Int} {x3 : Int} {u : Mu} {P : Mu → Prop} {h : Hp} {g : Nat → Nat} (r_x1 : R32 x1) (r_x2 : R32 x2) (r_x3 : R32 x3) (m : Ms h g u)  (H : F_X12_comeTogether x1 x2 x3 u P) : Con mX12_comeTogether 6 0 0 [vr (some (g 0)), ii (x1), ii (x2), ii (x3)] h (QMV g P) := by
  refine con_of rfl (Nat.le_of_ble_eq_true rfl) (by decide) ?_
  show J mX12_comeTogether 6 0 0 _ 0 [some (vr (some (g 0))), some (ii (x1)), some (ii (x2)), some (ii (x3)), none, none, none, none, none, none] [] h
  unfold F_X12_comeTogether at H
  refine j_aload_n (dk dt_X12_comeTogether 0 rfl) rfl ?_
  refine j_bipush (v := Int32.ofInt 40) (dk dt_X12_comeTogether 1 rfl) (by decide) ?_
  refine j_iload_n (dk dt_X12_comeTogether 2 rfl) rfl ?_
  refine j_iload_n (dk dt_X12_comeTogether 3 rfl) rfl ?_
  refine j_iload_n (dk dt_X12_comeTogether 4 rfl) rfl ?_
  refine jz_callV4 (dk dt_X12_comeTogether 5 rfl) vl_X12_897 rfl (T_X12_sameOrder (by decide) r_x2 r_x1 r_x3 m H) m.1.1 rfl (by decide) (Nat.zero_le _) (Nat.zero_le _) (Nat.le_of_ble_eq_true rfl) (fun v_6 h_6 P_6 => ?_)
  obtain ⟨x_6, rfl, r_6, rfl, H⟩ := P_6
  dsimp only [rs]
  refine j_istore (dk dt_X12_comeTogether 6 rfl) (by decide) ?_
  refine j_iload (dk dt_X12_comeTogether 7 rfl) rfl ?_
  refine jz_if_eq 20 (dk dt_X12_comeTogether 8 rfl) (by decide) r_6 H (fun H => ?_) (fun H => ?_)
  · refine j_bipush (v := Int32.ofInt 40) (dk dt_X12_comeTogether 11 rfl) (by decide) ?_
    exact j_el (T_X12_comeTogether_22 r_x1 r_x2 r_x3 r_6 (by decide) m   H) (And.intro rfl (And.intro rfl (And.intro rfl (And.intro rfl (And.intro rfl trivial)))))
  · refine j_iload_n (dk dt_X12_comeTogether 9 rfl) rfl ?_
    refine j_goto 22 (dk dt_X12_comeTogether 10 rfl) (by decide) ?_
    exact j_el (T_X12_comeTogether_22 r_x1 r_x2 r_x3 r_6 r_x1 m   H) (And.intro rfl (And.intro rfl (And.intro rfl (And.intro rfl (And.intro rfl trivial)))))
def F_X12_commit  (u : Mu) (P : Int → Mu → Prop) : Prop :=
  (∀ u_2, u_2 = uI u 0 0 0 → F_X12_unsettled u_2 (fun x_6 => (if x_6 ≤ 0 then (if mI u_2 0 8 = 40 then F_X12_throwing 2 u_2 (fun x_29 u_29 => P x_29 u_29) else F_X12_copySheet 40 (mI u_2 0 8) u_2 (fun u_42 => F_X12_head u_42 (fun x_51 => (0 ≤ mI u_2 0 8 ∧ mI u_2 0 8 < 40 ∧ (∀ u_54, u_54 = uI u_42 9 (mI u_2 0 8) x_51 → (0 ≤ mI u_2 0 8 ∧ mI u_2 0 8 < 40 ∧ (∀ u_64, u_64 = uI u_54 10 (mI u_2 0 8) (mI u_54 0 13) → (∀ u_67, u_67 = uI u_64 0 13 (-1) → (∀ u_72, u_72 = uI u_67 0 98 0 → (0 ≤ mI u_72 0 12 ∧ mI u_72 0 12 < 6 ∧ (∀ u_84, u_84 = uI u_72 11 (mI u_72 0 12) (mI u_2 0 8) → (∀ u_92, u_92 = uI u_84 0 8 (w32 (mI u_84 0 8 + 1)) → P (mI u_2 0 8) u_92)))))))))))) else F_X12_throwing 1 u_2 (fun x_14 u_14 => P x_14 u_14))))
theorem T_X12_commit  {u : Mu} {P : Int → Mu → Prop} {h : Hp} {g : Nat → Nat}  (m : Ms h g u)  (H : F_X12_commit u P) : Con mX12_commit 2 0 0 [vr (some (g 0))] h (QMI g P) := by
  refine con_of rfl (Nat.le_of_ble_eq_true rfl) (by decide) ?_
  show J mX12_commit 2 0 0 _ 0 [some (vr (some (g 0))), none] [] h
  unfold F_X12_commit at H
  refine j_aload_n (dk dt_X12_commit 0 rfl) rfl ?_
  refine j_iconst (v := Int32.ofInt 0) (dk dt_X12_commit 1 rfl) (by decide) ?_
  refine jm_putI (kz := 0) (dk dt_X12_commit 2 rfl) fl_X12_202 rfl rfl rfl rfl m (by decide) (fun h_2 m_2 => ?_)
  replace H := H _ rfl
  refine j_aload_n (dk dt_X12_commit 3 rfl) rfl ?_
  refine jz_callV0 (dk dt_X12_commit 4 rfl) vl_X12_871 rfl (T_X12_unsettled m_2 H) m_2.1.1 rfl (by decide) (Nat.zero_le _) (Nat.zero_le _) (Nat.le_of_ble_eq_true rfl) (fun v_6 h_6 P_6 => ?_)
  obtain ⟨x_6, rfl, r_6, rfl, H⟩ := P_6
  dsimp only [rs]
  refine jz_if_le 18 (dk dt_X12_commit 5 rfl) (by decide) r_6 H (fun H => ?_) (fun H => ?_)
  · refine j_aload_n (dk dt_X12_commit 10 rfl) rfl ?_
    refine jm_getI (kz := 8) (dk dt_X12_commit 11 rfl) fl_X12_33 rfl rfl m_2 ?_
    refine j_bipush (v := Int32.ofInt 40) (dk dt_X12_commit 12 rfl) (by decide) ?_
    refine jz_icmp_ne 33 (dk dt_X12_commit 13 rfl) (by decide) (m_2.2.1.1 _ _) (by decide) H (fun H => ?_) (fun H => ?_)
    · refine j_aload_n (dk dt_X12_commit 14 rfl) rfl ?_
      refine j_iconst (v := Int32.ofInt 2) (dk dt_X12_commit 15 rfl) (by decide) ?_
      refine jz_callV1 (dk dt_X12_commit 16 rfl) vl_X12_237 rfl (T_X12_throwing (by decide) m_2 H) m_2.1.1 rfl (by decide) (Nat.zero_le _) (Nat.zero_le _) (Nat.le_of_ble_eq_true rfl) (fun v_29 h_29 P_29 => ?_)
      obtain ⟨x_29, u_29, rfl, r_29, m_29, H⟩ := P_29
      dsimp only [rs]
      exact j_ireturn (dk dt_X12_commit 17 rfl) rfl rfl ⟨_, _, rfl, r_29, m_29, H⟩
    · refine j_aload_n (dk dt_X12_commit 18 rfl) rfl ?_
      refine jm_getI (kz := 8) (dk dt_X12_commit 19 rfl) fl_X12_33 rfl rfl m_2 ?_
      refine j_istore_n (dk dt_X12_commit 20 rfl) (by decide) ?_
      refine j_aload_n (dk dt_X12_commit 21 rfl) rfl ?_
      refine j_bipush (v := Int32.ofInt 40) (dk dt_X12_commit 22 rfl) (by decide) ?_
      refine j_iload_n (dk dt_X12_commit 23 rfl) rfl ?_
      refine jz_callV2 (dk dt_X12_commit 24 rfl) vl_X12_198 rfl (T_X12_copySheet (by decide) (m_2.2.1.1 _ _) m_2 H) m_2.1.1 rfl (by decide) (Nat.zero_le _) (Nat.zero_le _) (Nat.le_of_ble_eq_true rfl) (fun v_42 h_42 P_42 => ?_)
      obtain ⟨u_42, rfl, m_42, H⟩ := P_42
      dsimp only [rs]
      refine j_aload_n (dk dt_X12_commit 25 rfl) rfl ?_
      refine jm_getA (dk dt_X12_commit 26 rfl) fl_X12_36 rfl (c := 14) rfl m_42 ?_
      refine j_iload_n (dk dt_X12_commit 27 rfl) rfl ?_
      refine j_aload_n (dk dt_X12_commit 28 rfl) rfl ?_
      refine jz_callV0 (dk dt_X12_commit 29 rfl) vl_X12_860 rfl (T_X12_head m_42 H) m_42.1.1 rfl (by decide) (Nat.zero_le _) (Nat.zero_le _) (Nat.le_of_ble_eq_true rfl) (fun v_51 h_51 P_51 => ?_)
      obtain ⟨x_51, rfl, r_51, rfl, H⟩ := P_51
      dsimp only [rs]
      obtain ⟨p_54, q_54, H⟩ := H
      refine jm_iast (dk dt_X12_commit 30 rfl) rfl rfl m_42 p_54 q_54 r_51 (fun h_54 m_54 => ?_)
      replace H := H _ rfl
      refine j_aload_n (dk dt_X12_commit 31 rfl) rfl ?_
      refine jm_getA (dk dt_X12_commit 32 rfl) fl_X12_39 rfl (c := 14) rfl m_54 ?_
      refine j_iload_n (dk dt_X12_commit 33 rfl) rfl ?_
      refine j_aload_n (dk dt_X12_commit 34 rfl) rfl ?_
      refine jm_getI (kz := 13) (dk dt_X12_commit 35 rfl) fl_X12_45 rfl rfl m_54 ?_
      obtain ⟨p_64, q_64, H⟩ := H
      refine jm_iast (dk dt_X12_commit 36 rfl) rfl rfl m_54 p_64 q_64 (m_54.2.1.1 _ _) (fun h_64 m_64 => ?_)
      replace H := H _ rfl
      refine j_aload_n (dk dt_X12_commit 37 rfl) rfl ?_
      refine j_iconst (v := Int32.ofInt (-1)) (dk dt_X12_commit 38 rfl) (by decide) ?_
      refine jm_putI (kz := 13) (dk dt_X12_commit 39 rfl) fl_X12_45 rfl rfl rfl rfl m_64 (by decide) (fun h_67 m_67 => ?_)
      replace H := H _ rfl
      refine j_aload_n (dk dt_X12_commit 40 rfl) rfl ?_
      refine j_iconst (v := Int32.ofInt 0) (dk dt_X12_commit 41 rfl) (by decide) ?_
      refine jm_putI (kz := 98) (dk dt_X12_commit 42 rfl) fl_X12_868 rfl rfl rfl rfl m_67 (by decide) (fun h_72 m_72 => ?_)
      replace H := H _ rfl
      refine j_aload_n (dk dt_X12_commit 43 rfl) rfl ?_
      refine jm_getA (dk dt_X12_commit 44 rfl) fl_X12_42 rfl (c := 14) rfl m_72 ?_
      refine j_aload_n (dk dt_X12_commit 45 rfl) rfl ?_
      refine jm_getI (kz := 12) (dk dt_X12_commit 46 rfl) fl_X12_857 rfl rfl m_72 ?_
      refine j_iload_n (dk dt_X12_commit 47 rfl) rfl ?_
      obtain ⟨p_84, q_84, H⟩ := H
      refine jm_iast (dk dt_X12_commit 48 rfl) rfl rfl m_72 p_84 q_84 (m_2.2.1.1 _ _) (fun h_84 m_84 => ?_)
      replace H := H _ rfl
      refine j_aload_n (dk dt_X12_commit 49 rfl) rfl ?_
      refine j_dup (dk dt_X12_commit 50 rfl) rfl ?_
      refine jm_getI (kz := 8) (dk dt_X12_commit 51 rfl) fl_X12_33 rfl rfl m_84 ?_
      refine j_iconst (v := Int32.ofInt 1) (dk dt_X12_commit 52 rfl) (by decide) ?_
      refine jz_iadd (dk dt_X12_commit 53 rfl) ?_
      refine jm_putI (kz := 8) (dk dt_X12_commit 54 rfl) fl_X12_33 rfl rfl rfl rfl m_84 (r32_w _) (fun h_92 m_92 => ?_)
      replace H := H _ rfl
      refine j_iload_n (dk dt_X12_commit 55 rfl) rfl ?_
      exact j_ireturn (dk dt_X12_commit 56 rfl) rfl rfl ⟨_, _, rfl, (m_2.2.1.1 _ _), m_92, H⟩
  · refine j_aload_n (dk dt_X12_commit 6 rfl) rfl ?_
    refine j_iconst (v := Int32.ofInt 1) (dk dt_X12_commit 7 rfl) (by decide) ?_
    refine jz_callV1 (dk dt_X12_commit 8 rfl) vl_X12_237 rfl (T_X12_throwing (by decide) m_2 H) m_2.1.1 rfl (by decide) (Nat.zero_le _) (Nat.zero_le _) (Nat.le_of_ble_eq_true rfl) (fun v_14 h_14 P_14 => ?_)
    obtain ⟨x_14, u_14, rfl, r_14, m_14, H⟩ := P_14
    dsimp only [rs]
    exact j_ireturn (dk dt_X12_commit 9 rfl) rfl rfl ⟨_, _, rfl, r_14, m_14, H⟩
def F_X12_holds_45  (s0 : Int) (P : Int → Prop) : Prop :=
  (Z1 s0 ∧ P s0)
theorem T_X12_holds_45  {s0 : Int} {P : Int → Prop} {h : Hp} (r_s0 : R32 s0)    (H : F_X12_holds_45 s0 P) : J mX12_holds 1 0 0 (nx (QPI h P)) 45 [none, none] [ii (s0)] h := by
  unfold F_X12_holds_45 at H
  obtain ⟨hz_, H⟩ := H
  exact j_ireturn (dk dt_X12_holds 7 rfl) rfl (nar_z hz_) ⟨_, rfl, r_s0, rfl, H⟩
def F_X12_holds_55  (s0 : Int) (P : Int → Prop) : Prop :=
  (Z1 s0 ∧ P s0)
theorem T_X12_holds_55  {s0 : Int} {P : Int → Prop} {h : Hp} (r_s0 : R32 s0)    (H : F_X12_holds_55 s0 P) : J mX12_holds 1 0 0 (nx (QPI h P)) 55 [none, none] [ii (s0)] h := by
  unfold F_X12_holds_55 at H
  obtain ⟨hz_, H⟩ := H
  exact j_ireturn (dk dt_X12_holds 13 rfl) rfl (nar_z hz_) ⟨_, rfl, r_s0, rfl, H⟩
def F_X12_holds_65  (s0 : Int) (P : Int → Prop) : Prop :=
  (Z1 s0 ∧ P s0)
theorem T_X12_holds_65  {s0 : Int} {P : Int → Prop} {h : Hp} (r_s0 : R32 s0)    (H : F_X12_holds_65 s0 P) : J mX12_holds 1 0 0 (nx (QPI h P)) 65 [none, none] [ii (s0)] h := by
  unfold F_X12_holds_65 at H
  obtain ⟨hz_, H⟩ := H
  exact j_ireturn (dk dt_X12_holds 19 rfl) rfl (nar_z hz_) ⟨_, rfl, r_s0, rfl, H⟩
def F_X12_holds_75  (s0 : Int) (P : Int → Prop) : Prop :=
  (Z1 s0 ∧ P s0)
theorem T_X12_holds_75  {s0 : Int} {P : Int → Prop} {h : Hp} (r_s0 : R32 s0)    (H : F_X12_holds_75 s0 P) : J mX12_holds 1 0 0 (nx (QPI h P)) 75 [none, none] [ii (s0)] h := by
  unfold F_X12_holds_75 at H
  obtain ⟨hz_, H⟩ := H
  exact j_ireturn (dk dt_X12_holds 25 rfl) rfl (nar_z hz_) ⟨_, rfl, r_s0, rfl, H⟩
def F_X12_holds_85  (s0 : Int) (P : Int → Prop) : Prop :=
  (Z1 s0 ∧ P s0)
theorem T_X12_holds_85  {s0 : Int} {P : Int → Prop} {h : Hp} (r_s0 : R32 s0)    (H : F_X12_holds_85 s0 P) : J mX12_holds 1 0 0 (nx (QPI h P)) 85 [none, none] [ii (s0)] h := by
  unfold F_X12_holds_85 at H
  obtain ⟨hz_, H⟩ := H
  exact j_ireturn (dk dt_X12_holds 31 rfl) rfl (nar_z hz_) ⟨_, rfl, r_s0, rfl, H⟩
def F_X12_holds_95  (s0 : Int) (P : Int → Prop) : Prop :=
  (Z1 s0 ∧ P s0)
theorem T_X12_holds_95  {s0 : Int} {P : Int → Prop} {h : Hp} (r_s0 : R32 s0)    (H : F_X12_holds_95 s0 P) : J mX12_holds 1 0 0 (nx (QPI h P)) 95 [none, none] [ii (s0)] h := by
  unfold F_X12_holds_95 at H
  obtain ⟨hz_, H⟩ := H
  exact j_ireturn (dk dt_X12_holds 37 rfl) rfl (nar_z hz_) ⟨_, rfl, r_s0, rfl, H⟩
def F_X12_holds  (x0 : Int) (x1 : Int) (P : Int → Prop) : Prop :=
  (if x1 = 0 then (if x0 = 0 then F_X12_holds_45 1 P else F_X12_holds_45 0 P) else (if x1 = 1 then (if x0 = 0 then F_X12_holds_55 0 P else F_X12_holds_55 1 P) else (if x1 = 2 then (if 0 ≤ x0 then F_X12_holds_65 0 P else F_X12_holds_65 1 P) else (if x1 = 3 then (if 0 < x0 then F_X12_holds_75 0 P else F_X12_holds_75 1 P) else (if x1 = 4 then (if x0 ≤ 0 then F_X12_holds_85 0 P else F_X12_holds_85 1 P) else (if x0 < 0 then F_X12_holds_95 0 P else F_X12_holds_95 1 P))))))
theorem T_X12_holds  {x0 : Int} {x1 : Int} {P : Int → Prop} {h : Hp} (r_x0 : R32 x0) (r_x1 : R32 x1)   (H : F_X12_holds x0 x1 P) : Con mX12_holds 1 0 0 [ii (x0), ii (x1)] h (QPI h P) := by
  refine con_of rfl (Nat.le_of_ble_eq_true rfl) (by decide) ?_
  show J mX12_holds 1 0 0 _ 0 [some (ii (x0)), some (ii (x1))] [] h
  unfold F_X12_holds at H
  refine j_iload_n (dk dt_X12_holds 0 rfl) rfl ?_
  by_cases y_1_0 : x1 = 0
  · rw [if_pos y_1_0] at H
    refine jz_tabIn 0 36 (dk dt_X12_holds 1 rfl) r_x1 y_1_0 (by decide) (by decide) rfl (by decide) ?_
    refine j_iload_n (dk dt_X12_holds 2 rfl) rfl ?_
    refine jz_if_ne 44 (dk dt_X12_holds 3 rfl) (by decide) r_x0 H (fun H => ?_) (fun H => ?_)
    · refine j_iconst (v := Int32.ofInt 1) (dk dt_X12_holds 4 rfl) (by decide) ?_
      refine j_goto 45 (dk dt_X12_holds 5 rfl) (by decide) ?_
      exact j_el (T_X12_holds_45 (by decide)    H) trivial
    · refine j_iconst (v := Int32.ofInt 0) (dk dt_X12_holds 6 rfl) (by decide) ?_
      exact j_el (T_X12_holds_45 (by decide)    H) trivial
  rw [if_neg y_1_0] at H
  by_cases y_1_1 : x1 = 1
  · rw [if_pos y_1_1] at H
    refine jz_tabIn 1 46 (dk dt_X12_holds 1 rfl) r_x1 y_1_1 (by decide) (by decide) rfl (by decide) ?_
    refine j_iload_n (dk dt_X12_holds 8 rfl) rfl ?_
    refine jz_if_eq 54 (dk dt_X12_holds 9 rfl) (by decide) r_x0 H (fun H => ?_) (fun H => ?_)
    · refine j_iconst (v := Int32.ofInt 0) (dk dt_X12_holds 12 rfl) (by decide) ?_
      exact j_el (T_X12_holds_55 (by decide)    H) trivial
    · refine j_iconst (v := Int32.ofInt 1) (dk dt_X12_holds 10 rfl) (by decide) ?_
      refine j_goto 55 (dk dt_X12_holds 11 rfl) (by decide) ?_
      exact j_el (T_X12_holds_55 (by decide)    H) trivial
  rw [if_neg y_1_1] at H
  by_cases y_1_2 : x1 = 2
  · rw [if_pos y_1_2] at H
    refine jz_tabIn 2 56 (dk dt_X12_holds 1 rfl) r_x1 y_1_2 (by decide) (by decide) rfl (by decide) ?_
    refine j_iload_n (dk dt_X12_holds 14 rfl) rfl ?_
    refine jz_if_ge 64 (dk dt_X12_holds 15 rfl) (by decide) r_x0 H (fun H => ?_) (fun H => ?_)
    · refine j_iconst (v := Int32.ofInt 0) (dk dt_X12_holds 18 rfl) (by decide) ?_
      exact j_el (T_X12_holds_65 (by decide)    H) trivial
    · refine j_iconst (v := Int32.ofInt 1) (dk dt_X12_holds 16 rfl) (by decide) ?_
      refine j_goto 65 (dk dt_X12_holds 17 rfl) (by decide) ?_
      exact j_el (T_X12_holds_65 (by decide)    H) trivial
  rw [if_neg y_1_2] at H
  by_cases y_1_3 : x1 = 3
  · rw [if_pos y_1_3] at H
    refine jz_tabIn 3 66 (dk dt_X12_holds 1 rfl) r_x1 y_1_3 (by decide) (by decide) rfl (by decide) ?_
    refine j_iload_n (dk dt_X12_holds 20 rfl) rfl ?_
    refine jz_if_gt 74 (dk dt_X12_holds 21 rfl) (by decide) r_x0 H (fun H => ?_) (fun H => ?_)
    · refine j_iconst (v := Int32.ofInt 0) (dk dt_X12_holds 24 rfl) (by decide) ?_
      exact j_el (T_X12_holds_75 (by decide)    H) trivial
    · refine j_iconst (v := Int32.ofInt 1) (dk dt_X12_holds 22 rfl) (by decide) ?_
      refine j_goto 75 (dk dt_X12_holds 23 rfl) (by decide) ?_
      exact j_el (T_X12_holds_75 (by decide)    H) trivial
  rw [if_neg y_1_3] at H
  by_cases y_1_4 : x1 = 4
  · rw [if_pos y_1_4] at H
    refine jz_tabIn 4 76 (dk dt_X12_holds 1 rfl) r_x1 y_1_4 (by decide) (by decide) rfl (by decide) ?_
    refine j_iload_n (dk dt_X12_holds 26 rfl) rfl ?_
    refine jz_if_le 84 (dk dt_X12_holds 27 rfl) (by decide) r_x0 H (fun H => ?_) (fun H => ?_)
    · refine j_iconst (v := Int32.ofInt 0) (dk dt_X12_holds 30 rfl) (by decide) ?_
      exact j_el (T_X12_holds_85 (by decide)    H) trivial
    · refine j_iconst (v := Int32.ofInt 1) (dk dt_X12_holds 28 rfl) (by decide) ?_
      refine j_goto 85 (dk dt_X12_holds 29 rfl) (by decide) ?_
      exact j_el (T_X12_holds_85 (by decide)    H) trivial
  rw [if_neg y_1_4] at H
  refine jz_tabOut 86 (dk dt_X12_holds 1 rfl) r_x1 (by omega) (by decide) ?_
  refine j_iload_n (dk dt_X12_holds 32 rfl) rfl ?_
  refine jz_if_lt 94 (dk dt_X12_holds 33 rfl) (by decide) r_x0 H (fun H => ?_) (fun H => ?_)
  · refine j_iconst (v := Int32.ofInt 0) (dk dt_X12_holds 36 rfl) (by decide) ?_
    exact j_el (T_X12_holds_95 (by decide)    H) trivial
  · refine j_iconst (v := Int32.ofInt 1) (dk dt_X12_holds 34 rfl) (by decide) ?_
    refine j_goto 95 (dk dt_X12_holds 35 rfl) (by decide) ?_
    exact j_el (T_X12_holds_95 (by decide)    H) trivial
def L_X12_order_94  (x1 : Int) (x2 : Int) (x3 : Int) (x4 : Int) (u : Mu) (P : Int ⊕ ((Unit) ⊕ (Int × Int)) → Prop) : Prop :=
  (if x3 ≤ x4 then P (.inr (.inl ())) else (0 ≤ w32 (w32 (24 * x1) + x4) ∧ w32 (w32 (24 * x1) + x4) < 4800 ∧ (0 ≤ w32 (w32 (24 * x2) + x4) ∧ w32 (w32 (24 * x2) + x4) < 4800 ∧ (if mI u 69 (w32 (w32 (24 * x1) + x4)) = mI u 69 (w32 (w32 (24 * x2) + x4)) then P (.inl (w32 (x4 + 1))) else P (.inr (.inr (mI u 69 (w32 (w32 (24 * x1) + x4)), mI u 69 (w32 (w32 (24 * x2) + x4)))))))))
theorem U_X12_order_94  {x1 : Int} {x2 : Int} {x3 : Int} {x4 : Int} {u : Mu} {P : Int ⊕ ((Unit) ⊕ (Int × Int)) → Prop} {h : Hp} {g : Nat → Nat} {post : Option Sv ⊕ String → Hp → Prop} (r_x1 : R32 x1) (r_x2 : R32 x2) (r_x3 : R32 x3) (r_x4 : R32 x4) (m : Ms h g u)  (hl : ∀ (x4 : Int), P (.inl x4) → R32 x4 → J mX12_order 2 0 0 post 94 [some (vr (some (g 0))), some (ii (x1)), some (ii (x2)), some (ii (x3)), some (ii (x4)), none, none] [] h) (he0 : P (.inr (.inl ())) → J mX12_order 2 0 0 post 154 [some (vr (some (g 0))), some (ii (x1)), some (ii (x2)), none, none, none, none] [] h) (he1 : ∀ (x5 : Int) (x6 : Int), P (.inr (.inr (x5, x6))) → R32 x5 → R32 x6 → J mX12_order 2 0 0 post 135 [none, none, none, none, none, some (ii (x5)), some (ii (x6))] [] h) (H : L_X12_order_94 x1 x2 x3 x4 u P) : J mX12_order 2 0 0 post 94 [some (vr (some (g 0))), some (ii (x1)), some (ii (x2)), some (ii (x3)), some (ii (x4)), none, none] [] h := by
  unfold L_X12_order_94 at H
  refine j_iload (dk dt_X12_order 56 rfl) rfl ?_
  refine j_iload_n (dk dt_X12_order 57 rfl) rfl ?_
  refine jz_icmp_ge 154 (dk dt_X12_order 58 rfl) (by decide) r_x4 r_x3 H (fun H => ?_) (fun H => ?_)
  · exact j_el (he0  H ) (And.intro rfl (And.intro rfl (And.intro rfl trivial)))
  · refine j_aload_n (dk dt_X12_order 59 rfl) rfl ?_
    refine jm_getA (dk dt_X12_order 60 rfl) fl_X12_135 rfl (c := 13) rfl m ?_
    refine j_bipush (v := Int32.ofInt 24) (dk dt_X12_order 61 rfl) (by decide) ?_
    refine j_iload_n (dk dt_X12_order 62 rfl) rfl ?_
    refine jz_imul (dk dt_X12_order 63 rfl) ?_
    refine j_iload (dk dt_X12_order 64 rfl) rfl ?_
    refine jz_iadd (dk dt_X12_order 65 rfl) ?_
    obtain ⟨p_111, q_111, H⟩ := H
    refine jm_bald (dk dt_X12_order 66 rfl) rfl rfl m p_111 q_111 ?_
    refine j_istore (dk dt_X12_order 67 rfl) (by decide) ?_
    refine j_aload_n (dk dt_X12_order 68 rfl) rfl ?_
    refine jm_getA (dk dt_X12_order 69 rfl) fl_X12_135 rfl (c := 13) rfl m ?_
    refine j_bipush (v := Int32.ofInt 24) (dk dt_X12_order 70 rfl) (by decide) ?_
    refine j_iload_n (dk dt_X12_order 71 rfl) rfl ?_
    refine jz_imul (dk dt_X12_order 72 rfl) ?_
    refine j_iload (dk dt_X12_order 73 rfl) rfl ?_
    refine jz_iadd (dk dt_X12_order 74 rfl) ?_
    obtain ⟨p_125, q_125, H⟩ := H
    refine jm_bald (dk dt_X12_order 75 rfl) rfl rfl m p_125 q_125 ?_
    refine j_istore (dk dt_X12_order 76 rfl) (by decide) ?_
    refine j_iload (dk dt_X12_order 77 rfl) rfl ?_
    refine j_iload (dk dt_X12_order 78 rfl) rfl ?_
    refine jz_icmp_eq 148 (dk dt_X12_order 79 rfl) (by decide) (m.2.1.1 _ _) (m.2.1.1 _ _) H (fun H => ?_) (fun H => ?_)
    · refine jz_iinc (dk dt_X12_order 87 rfl) rfl ?_
      refine j_goto 94 (dk dt_X12_order 88 rfl) (by decide) ?_
      exact j_el (hl _ H (r32_w _)) (And.intro rfl (And.intro rfl (And.intro rfl (And.intro rfl (And.intro rfl trivial)))))
    · exact j_el (he1 _ _ H (m.2.1.1 _ _) (m.2.1.1 _ _)) (And.intro rfl (And.intro rfl trivial))
def F_X12_order_193  (s0 : Int) (u : Mu) (P : Int → Prop) : Prop :=
  P s0
theorem T_X12_order_193  {s0 : Int} {u : Mu} {P : Int → Prop} {h : Hp} {g : Nat → Nat} (r_s0 : R32 s0) (m : Ms h g u)   (H : F_X12_order_193 s0 u P) : J mX12_order 2 0 0 (nx (QPI h P)) 193 [none, none, none, none, none, none, none] [ii (s0)] h := by
  unfold F_X12_order_193 at H
  exact j_ireturn (dk dt_X12_order 112 rfl) rfl rfl ⟨_, rfl, r_s0, rfl, H⟩
def F_X12_order_147  (s0 : Int) (u : Mu) (P : Int → Prop) : Prop :=
  P s0
theorem T_X12_order_147  {s0 : Int} {u : Mu} {P : Int → Prop} {h : Hp} {g : Nat → Nat} (r_s0 : R32 s0) (m : Ms h g u)   (H : F_X12_order_147 s0 u P) : J mX12_order 2 0 0 (nx (QPI h P)) 147 [none, none, none, none, none, none, none] [ii (s0)] h := by
  unfold F_X12_order_147 at H
  exact j_ireturn (dk dt_X12_order 86 rfl) rfl rfl ⟨_, rfl, r_s0, rfl, H⟩
def F_X12_order_94  (x1 : Int) (x2 : Int) (x3 : Int) (x4 : Int) (u : Mu) (P : Int → Prop) : Prop :=
  lp (S := Int) (E := (Unit) ⊕ (Int × Int)) (fun q P_ => L_X12_order_94 x1 x2 x3 q u P_) x4 (fun e => match e with | (.inl _) => (0 ≤ x1 ∧ x1 < 200 ∧ (0 ≤ x2 ∧ x2 < 200 ∧ (if mI u 68 x2 ≤ mI u 68 x1 then (if mI u 68 x1 ≤ mI u 68 x2 then F_X12_order_193 0 u P else F_X12_order_193 1 u P) else F_X12_order_193 (-1) u P))) | (.inr (x5, x6)) => (if x6 ≤ x5 then F_X12_order_147 1 u P else F_X12_order_147 (-1) u P))
theorem T_X12_order_94  {x1 : Int} {x2 : Int} {x3 : Int} {x4 : Int} {u : Mu} {P : Int → Prop} {h : Hp} {g : Nat → Nat} (r_x1 : R32 x1) (r_x2 : R32 x2) (r_x3 : R32 x3) (r_x4 : R32 x4) (m : Ms h g u)   (H : F_X12_order_94 x1 x2 x3 x4 u P) : J mX12_order 2 0 0 (nx (QPI h P)) 94 [some (vr (some (g 0))), some (ii (x1)), some (ii (x2)), some (ii (x3)), some (ii (x4)), none, none] [] h := by
  unfold F_X12_order_94 at H
  refine lp_J (G := fun q => R32 (q) → J mX12_order 2 0 0 (nx (QPI h P)) 94 [some (vr (some (g 0))), some (ii (x1)), some (ii (x2)), some (ii (x3)), some (ii ((q))), none, none] [] h) (fun x4 P_ hl_ he_ Hb => ?_) x4 H r_x4
  intro r_x4
  refine U_X12_order_94 (P := P_) r_x1 r_x2 r_x3 r_x4 m  (fun x4 Hp r_x4 => hl_ x4 Hp r_x4) ?_ ?_ Hb
  · intro Hp
    have H := he_ _ Hp
    refine j_aload_n (dk dt_X12_order 89 rfl) rfl ?_
    refine jm_getA (dk dt_X12_order 90 rfl) fl_X12_132 rfl (c := 14) rfl m ?_
    refine j_iload_n (dk dt_X12_order 91 rfl) rfl ?_
    obtain ⟨p_159, q_159, H⟩ := H
    refine jm_iald (dk dt_X12_order 92 rfl) rfl rfl m p_159 q_159 ?_
    refine j_aload_n (dk dt_X12_order 93 rfl) rfl ?_
    refine jm_getA (dk dt_X12_order 94 rfl) fl_X12_132 rfl (c := 14) rfl m ?_
    refine j_iload_n (dk dt_X12_order 95 rfl) rfl ?_
    obtain ⟨p_165, q_165, H⟩ := H
    refine jm_iald (dk dt_X12_order 96 rfl) rfl rfl m p_165 q_165 ?_
    refine jz_icmp_ge 173 (dk dt_X12_order 97 rfl) (by decide) (m.2.1.1 _ _) (m.2.1.1 _ _) H (fun H => ?_) (fun H => ?_)
    · refine j_aload_n (dk dt_X12_order 100 rfl) rfl ?_
      refine jm_getA (dk dt_X12_order 101 rfl) fl_X12_132 rfl (c := 14) rfl m ?_
      refine j_iload_n (dk dt_X12_order 102 rfl) rfl ?_
      refine jm_iald (dk dt_X12_order 103 rfl) rfl rfl m p_159 q_159 ?_
      refine j_aload_n (dk dt_X12_order 104 rfl) rfl ?_
      refine jm_getA (dk dt_X12_order 105 rfl) fl_X12_132 rfl (c := 14) rfl m ?_
      refine j_iload_n (dk dt_X12_order 106 rfl) rfl ?_
      refine jm_iald (dk dt_X12_order 107 rfl) rfl rfl m p_165 q_165 ?_
      refine jz_icmp_le 192 (dk dt_X12_order 108 rfl) (by decide) (m.2.1.1 _ _) (m.2.1.1 _ _) H (fun H => ?_) (fun H => ?_)
      · refine j_iconst (v := Int32.ofInt 0) (dk dt_X12_order 111 rfl) (by decide) ?_
        exact j_el (T_X12_order_193 (by decide) m   H) trivial
      · refine j_iconst (v := Int32.ofInt 1) (dk dt_X12_order 109 rfl) (by decide) ?_
        refine j_goto 193 (dk dt_X12_order 110 rfl) (by decide) ?_
        exact j_el (T_X12_order_193 (by decide) m   H) trivial
    · refine j_iconst (v := Int32.ofInt (-1)) (dk dt_X12_order 98 rfl) (by decide) ?_
      refine j_goto 193 (dk dt_X12_order 99 rfl) (by decide) ?_
      exact j_el (T_X12_order_193 (by decide) m   H) trivial
  · intro x5 x6 Hp r_x5 r_x6
    have H := he_ _ Hp
    refine j_iload (dk dt_X12_order 80 rfl) rfl ?_
    refine j_iload (dk dt_X12_order 81 rfl) rfl ?_
    refine jz_icmp_ge 146 (dk dt_X12_order 82 rfl) (by decide) r_x5 r_x6 H (fun H => ?_) (fun H => ?_)
    · refine j_iconst (v := Int32.ofInt 1) (dk dt_X12_order 85 rfl) (by decide) ?_
      exact j_el (T_X12_order_147 (by decide) m   H) trivial
    · refine j_iconst (v := Int32.ofInt (-1)) (dk dt_X12_order 83 rfl) (by decide) ?_
      refine j_goto 147 (dk dt_X12_order 84 rfl) (by decide) ?_
      exact j_el (T_X12_order_147 (by decide) m   H) trivial
def F_X12_order_74  (s0 : Int) (u : Mu) (P : Int → Prop) : Prop :=
  P s0
theorem T_X12_order_74  {s0 : Int} {u : Mu} {P : Int → Prop} {h : Hp} {g : Nat → Nat} (r_s0 : R32 s0) (m : Ms h g u)   (H : F_X12_order_74 s0 u P) : J mX12_order 2 0 0 (nx (QPI h P)) 74 [none, none, none, none, none, none, none] [ii (s0)] h := by
  unfold F_X12_order_74 at H
  exact j_ireturn (dk dt_X12_order 43 rfl) rfl rfl ⟨_, rfl, r_s0, rfl, H⟩
def F_X12_order_49  (x3 : Int) (s0 : Int) (u : Mu) (P : Int → Prop) : Prop :=
  (if s0 ≤ x3 then (if x3 ≤ s0 then F_X12_order_74 0 u P else F_X12_order_74 1 u P) else F_X12_order_74 (-1) u P)
theorem T_X12_order_49  {x3 : Int} {s0 : Int} {u : Mu} {P : Int → Prop} {h : Hp} {g : Nat → Nat} (r_x3 : R64 x3) (r_s0 : R64 s0) (m : Ms h g u)   (H : F_X12_order_49 x3 s0 u P) : J mX12_order 2 0 0 (nx (QPI h P)) 49 [none, none, none, some (ll (x3)), none, none, none] [ll (s0)] h := by
  unfold F_X12_order_49 at H
  refine j_lstore (dk dt_X12_order 29 rfl) (by decide) ?_
  refine j_lload_n (dk dt_X12_order 30 rfl) rfl ?_
  refine j_lload (dk dt_X12_order 31 rfl) rfl ?_
  refine jz_lcmp (dk dt_X12_order 32 rfl) r_x3 r_s0 ?_
  refine jz_lif_ge 62 (dk dt_X12_order 33 rfl) (by decide) H (fun H => ?_) (fun H => ?_)
  · refine j_lload_n (dk dt_X12_order 36 rfl) rfl ?_
    refine j_lload (dk dt_X12_order 37 rfl) rfl ?_
    refine jz_lcmp (dk dt_X12_order 38 rfl) r_x3 r_s0 ?_
    refine jz_lif_le 73 (dk dt_X12_order 39 rfl) (by decide) H (fun H => ?_) (fun H => ?_)
    · refine j_iconst (v := Int32.ofInt 0) (dk dt_X12_order 42 rfl) (by decide) ?_
      exact j_el (T_X12_order_74 (by decide) m   H) trivial
    · refine j_iconst (v := Int32.ofInt 1) (dk dt_X12_order 40 rfl) (by decide) ?_
      refine j_goto 74 (dk dt_X12_order 41 rfl) (by decide) ?_
      exact j_el (T_X12_order_74 (by decide) m   H) trivial
  · refine j_iconst (v := Int32.ofInt (-1)) (dk dt_X12_order 34 rfl) (by decide) ?_
    refine j_goto 74 (dk dt_X12_order 35 rfl) (by decide) ?_
    exact j_el (T_X12_order_74 (by decide) m   H) trivial
def F_X12_order_29  (x2 : Int) (s0 : Int) (u : Mu) (P : Int → Prop) : Prop :=
  (0 ≤ x2 ∧ x2 < 200 ∧ (if mI u 66 x2 = 0 then F_X12_order_49 s0 0 u P else (0 ≤ x2 ∧ x2 < 200 ∧ F_X12_order_49 s0 (mG u 67 x2) u P)))
theorem T_X12_order_29  {x2 : Int} {s0 : Int} {u : Mu} {P : Int → Prop} {h : Hp} {g : Nat → Nat} (r_x2 : R32 x2) (r_s0 : R64 s0) (m : Ms h g u)   (H : F_X12_order_29 x2 s0 u P) : J mX12_order 2 0 0 (nx (QPI h P)) 29 [some (vr (some (g 0))), none, some (ii (x2)), none, none, none, none] [ll (s0)] h := by
  unfold F_X12_order_29 at H
  refine j_lstore_n (dk dt_X12_order 17 rfl) (by decide) ?_
  refine j_aload_n (dk dt_X12_order 18 rfl) rfl ?_
  refine jm_getA (dk dt_X12_order 19 rfl) fl_X12_126 rfl (c := 14) rfl m ?_
  refine j_iload_n (dk dt_X12_order 20 rfl) rfl ?_
  obtain ⟨p_35, q_35, H⟩ := H
  refine jm_iald (dk dt_X12_order 21 rfl) rfl rfl m p_35 q_35 ?_
  refine jz_if_ne 43 (dk dt_X12_order 22 rfl) (by decide) (m.2.1.1 _ _) H (fun H => ?_) (fun H => ?_)
  · refine j_lconst (v := Int64.ofInt 0) (dk dt_X12_order 23 rfl) (by decide) ?_
    refine j_goto 49 (dk dt_X12_order 24 rfl) (by decide) ?_
    exact j_el (T_X12_order_49 r_s0 (by decide) m   H) (And.intro rfl trivial)
  · refine j_aload_n (dk dt_X12_order 25 rfl) rfl ?_
    refine jm_getA (dk dt_X12_order 26 rfl) fl_X12_129 rfl (c := 15) rfl m ?_
    refine j_iload_n (dk dt_X12_order 27 rfl) rfl ?_
    obtain ⟨p_48, q_48, H⟩ := H
    refine jm_lald (dk dt_X12_order 28 rfl) rfl rfl m p_48 q_48 ?_
    exact j_el (T_X12_order_49 r_s0 (m.2.1.2.1 _ _) m   H) (And.intro rfl trivial)
def F_X12_order  (x1 : Int) (x2 : Int) (u : Mu) (P : Int → Prop) : Prop :=
  (0 ≤ x1 ∧ x1 < 200 ∧ (if mI u 66 x1 = 2 then (0 ≤ x1 ∧ x1 < 200 ∧ (0 ≤ x2 ∧ x2 < 200 ∧ F_X12_least (mI u 68 x1) (mI u 68 x2) (fun x_87 => F_X12_order_94 x1 x2 x_87 0 u P))) else (if mI u 66 x1 = 0 then F_X12_order_29 x2 0 u P else (0 ≤ x1 ∧ x1 < 200 ∧ F_X12_order_29 x2 (mG u 67 x1) u P))))
theorem T_X12_order  {x1 : Int} {x2 : Int} {u : Mu} {P : Int → Prop} {h : Hp} {g : Nat → Nat} (r_x1 : R32 x1) (r_x2 : R32 x2) (m : Ms h g u)  (H : F_X12_order x1 x2 u P) : Con mX12_order 2 0 0 [vr (some (g 0)), ii (x1), ii (x2)] h (QPI h P) := by
  refine con_of rfl (Nat.le_of_ble_eq_true rfl) (by decide) ?_
  show J mX12_order 2 0 0 _ 0 [some (vr (some (g 0))), some (ii (x1)), some (ii (x2)), none, none, none, none] [] h
  unfold F_X12_order at H
  refine j_aload_n (dk dt_X12_order 0 rfl) rfl ?_
  refine jm_getA (dk dt_X12_order 1 rfl) fl_X12_126 rfl (c := 14) rfl m ?_
  refine j_iload_n (dk dt_X12_order 2 rfl) rfl ?_
  obtain ⟨p_5, q_5, H⟩ := H
  refine jm_iald (dk dt_X12_order 3 rfl) rfl rfl m p_5 q_5 ?_
  refine j_iconst (v := Int32.ofInt 2) (dk dt_X12_order 4 rfl) (by decide) ?_
  refine jz_icmp_eq 75 (dk dt_X12_order 5 rfl) (by decide) (m.2.1.1 _ _) (by decide) H (fun H => ?_) (fun H => ?_)
  · refine j_aload_n (dk dt_X12_order 44 rfl) rfl ?_
    refine jm_getA (dk dt_X12_order 45 rfl) fl_X12_132 rfl (c := 14) rfl m ?_
    refine j_iload_n (dk dt_X12_order 46 rfl) rfl ?_
    obtain ⟨p_80, q_80, H⟩ := H
    refine jm_iald (dk dt_X12_order 47 rfl) rfl rfl m p_80 q_80 ?_
    refine j_aload_n (dk dt_X12_order 48 rfl) rfl ?_
    refine jm_getA (dk dt_X12_order 49 rfl) fl_X12_132 rfl (c := 14) rfl m ?_
    refine j_iload_n (dk dt_X12_order 50 rfl) rfl ?_
    obtain ⟨p_86, q_86, H⟩ := H
    refine jm_iald (dk dt_X12_order 51 rfl) rfl rfl m p_86 q_86 ?_
    refine j_callS2 (dk dt_X12_order 52 rfl) sl_X12_564 (T_X12_least (m.2.1.1 _ _) (m.2.1.1 _ _) H) rfl (by decide) (Nat.zero_le _) (Nat.zero_le _) (Nat.le_of_ble_eq_true rfl) (fun v_87 h_87 P_87 => ?_)
    obtain ⟨x_87, rfl, r_87, rfl, H⟩ := P_87
    dsimp only [rs]
    refine j_istore_n (dk dt_X12_order 53 rfl) (by decide) ?_
    refine j_iconst (v := Int32.ofInt 0) (dk dt_X12_order 54 rfl) (by decide) ?_
    refine j_istore (dk dt_X12_order 55 rfl) (by decide) ?_
    exact j_el (T_X12_order_94 r_x1 r_x2 r_87 (by decide) m   H) (And.intro rfl (And.intro rfl (And.intro rfl (And.intro rfl (And.intro rfl trivial)))))
  · refine j_aload_n (dk dt_X12_order 6 rfl) rfl ?_
    refine jm_getA (dk dt_X12_order 7 rfl) fl_X12_126 rfl (c := 14) rfl m ?_
    refine j_iload_n (dk dt_X12_order 8 rfl) rfl ?_
    refine jm_iald (dk dt_X12_order 9 rfl) rfl rfl m p_5 q_5 ?_
    refine jz_if_ne 23 (dk dt_X12_order 10 rfl) (by decide) (m.2.1.1 _ _) H (fun H => ?_) (fun H => ?_)
    · refine j_lconst (v := Int64.ofInt 0) (dk dt_X12_order 11 rfl) (by decide) ?_
      refine j_goto 29 (dk dt_X12_order 12 rfl) (by decide) ?_
      exact j_el (T_X12_order_29 r_x2 (by decide) m   H) (And.intro rfl (And.intro rfl trivial))
    · refine j_aload_n (dk dt_X12_order 13 rfl) rfl ?_
      refine jm_getA (dk dt_X12_order 14 rfl) fl_X12_129 rfl (c := 15) rfl m ?_
      refine j_iload_n (dk dt_X12_order 15 rfl) rfl ?_
      obtain ⟨p_28, q_28, H⟩ := H
      refine jm_lald (dk dt_X12_order 16 rfl) rfl rfl m p_28 q_28 ?_
      exact j_el (T_X12_order_29 r_x2 (m.2.1.2.1 _ _) m   H) (And.intro rfl (And.intro rfl trivial))
def F_X12_compare_82  (u : Mu) (P : Mu → Prop) : Prop :=
  P u
theorem T_X12_compare_82  {u : Mu} {P : Mu → Prop} {h : Hp} {g : Nat → Nat}  (m : Ms h g u)   (H : F_X12_compare_82 u P) : J mX12_compare 9 0 0 (nx (QMV g P)) 82 [none, none, none] [] h := by
  unfold F_X12_compare_82 at H
  exact j_return (dk dt_X12_compare 52 rfl) rfl ⟨_, rfl, m, H⟩
def F_X12_compare_70  (s1 : Int) (s2 : Int) (u : Mu) (P : Mu → Prop) : Prop :=
  F_X12_truth s1 s2 u (fun u_70 => F_X12_compare_82 u_70 P)
theorem T_X12_compare_70  {s1 : Int} {s2 : Int} {u : Mu} {P : Mu → Prop} {h : Hp} {g : Nat → Nat} (r_s1 : R32 s1) (r_s2 : R32 s2) (m : Ms h g u)   (H : F_X12_compare_70 s1 s2 u P) : J mX12_compare 9 0 0 (nx (QMV g P)) 70 [none, none, none] [ii (s2), ii (s1), vr (some (g 0))] h := by
  unfold F_X12_compare_70 at H
  refine jz_callV2 (dk dt_X12_compare 46 rfl) vl_X12_544 rfl (T_X12_truth r_s1 r_s2 m H) m.1.1 rfl (by decide) (Nat.zero_le _) (Nat.zero_le _) (Nat.le_of_ble_eq_true rfl) (fun v_70 h_70 P_70 => ?_)
  obtain ⟨u_70, rfl, m_70, H⟩ := P_70
  dsimp only [rs]
  refine j_goto 82 (dk dt_X12_compare 47 rfl) (by decide) ?_
  exact j_el (T_X12_compare_82  m_70   H) trivial
def F_X12_compare  (x1 : Int) (x2 : Int) (u : Mu) (P : Mu → Prop) : Prop :=
  F_X12_asOther x1 (w32 (x1 + 1)) u (fun u_5 => F_X12_asOther (w32 (x1 + 1)) x1 u_5 (fun u_13 => (0 ≤ x1 ∧ x1 < 200 ∧ (0 ≤ w32 (x1 + 1) ∧ w32 (x1 + 1) < 200 ∧ (if mI u_13 66 x1 = mI u_13 66 (w32 (x1 + 1)) then F_X12_order x1 (w32 (x1 + 1)) u_13 (fun x_40 => F_X12_holds x_40 x2 (fun x_44 => F_X12_truth x1 x_44 u_13 (fun u_47 => F_X12_compare_82 u_47 P))) else (if 2 ≤ x2 then F_X12_error x1 3 u_13 (fun u_79 => F_X12_compare_82 u_79 P) else (if x2 = 1 then F_X12_compare_70 x1 1 u_13 P else F_X12_compare_70 x1 0 u_13 P)))))))
theorem T_X12_compare  {x1 : Int} {x2 : Int} {u : Mu} {P : Mu → Prop} {h : Hp} {g : Nat → Nat} (r_x1 : R32 x1) (r_x2 : R32 x2) (m : Ms h g u)  (H : F_X12_compare x1 x2 u P) : Con mX12_compare 9 0 0 [vr (some (g 0)), ii (x1), ii (x2)] h (QMV g P) := by
  refine con_of rfl (Nat.le_of_ble_eq_true rfl) (by decide) ?_
  show J mX12_compare 9 0 0 _ 0 [some (vr (some (g 0))), some (ii (x1)), some (ii (x2))] [] h
  unfold F_X12_compare at H
  refine j_aload_n (dk dt_X12_compare 0 rfl) rfl ?_
  refine j_iload_n (dk dt_X12_compare 1 rfl) rfl ?_
  refine j_iload_n (dk dt_X12_compare 2 rfl) rfl ?_
  refine j_iconst (v := Int32.ofInt 1) (dk dt_X12_compare 3 rfl) (by decide) ?_
  refine jz_iadd (dk dt_X12_compare 4 rfl) ?_
  refine jz_callV2 (dk dt_X12_compare 5 rfl) vl_X12_622 rfl (T_X12_asOther r_x1 (r32_w _) m H) m.1.1 rfl (by decide) (Nat.zero_le _) (Nat.zero_le _) (Nat.le_of_ble_eq_true rfl) (fun v_5 h_5 P_5 => ?_)
  obtain ⟨u_5, rfl, m_5, H⟩ := P_5
  dsimp only [rs]
  refine j_aload_n (dk dt_X12_compare 6 rfl) rfl ?_
  refine j_iload_n (dk dt_X12_compare 7 rfl) rfl ?_
  refine j_iconst (v := Int32.ofInt 1) (dk dt_X12_compare 8 rfl) (by decide) ?_
  refine jz_iadd (dk dt_X12_compare 9 rfl) ?_
  refine j_iload_n (dk dt_X12_compare 10 rfl) rfl ?_
  refine jz_callV2 (dk dt_X12_compare 11 rfl) vl_X12_622 rfl (T_X12_asOther (r32_w _) r_x1 m_5 H) m_5.1.1 rfl (by decide) (Nat.zero_le _) (Nat.zero_le _) (Nat.le_of_ble_eq_true rfl) (fun v_13 h_13 P_13 => ?_)
  obtain ⟨u_13, rfl, m_13, H⟩ := P_13
  dsimp only [rs]
  refine j_aload_n (dk dt_X12_compare 12 rfl) rfl ?_
  refine jm_getA (dk dt_X12_compare 13 rfl) fl_X12_126 rfl (c := 14) rfl m_13 ?_
  refine j_iload_n (dk dt_X12_compare 14 rfl) rfl ?_
  obtain ⟨p_21, q_21, H⟩ := H
  refine jm_iald (dk dt_X12_compare 15 rfl) rfl rfl m_13 p_21 q_21 ?_
  refine j_aload_n (dk dt_X12_compare 16 rfl) rfl ?_
  refine jm_getA (dk dt_X12_compare 17 rfl) fl_X12_126 rfl (c := 14) rfl m_13 ?_
  refine j_iload_n (dk dt_X12_compare 18 rfl) rfl ?_
  refine j_iconst (v := Int32.ofInt 1) (dk dt_X12_compare 19 rfl) (by decide) ?_
  refine jz_iadd (dk dt_X12_compare 20 rfl) ?_
  obtain ⟨p_29, q_29, H⟩ := H
  refine jm_iald (dk dt_X12_compare 21 rfl) rfl rfl m_13 p_29 q_29 ?_
  refine jz_icmp_ne 53 (dk dt_X12_compare 22 rfl) (by decide) (m_13.2.1.1 _ _) (m_13.2.1.1 _ _) H (fun H => ?_) (fun H => ?_)
  · refine j_aload_n (dk dt_X12_compare 23 rfl) rfl ?_
    refine j_iload_n (dk dt_X12_compare 24 rfl) rfl ?_
    refine j_aload_n (dk dt_X12_compare 25 rfl) rfl ?_
    refine j_iload_n (dk dt_X12_compare 26 rfl) rfl ?_
    refine j_iload_n (dk dt_X12_compare 27 rfl) rfl ?_
    refine j_iconst (v := Int32.ofInt 1) (dk dt_X12_compare 28 rfl) (by decide) ?_
    refine jz_iadd (dk dt_X12_compare 29 rfl) ?_
    refine jz_callV2 (dk dt_X12_compare 30 rfl) vl_X12_625 rfl (T_X12_order r_x1 (r32_w _) m_13 H) m_13.1.1 rfl (by decide) (Nat.zero_le _) (Nat.zero_le _) (Nat.le_of_ble_eq_true rfl) (fun v_40 h_40 P_40 => ?_)
    obtain ⟨x_40, rfl, r_40, rfl, H⟩ := P_40
    dsimp only [rs]
    refine j_iload_n (dk dt_X12_compare 31 rfl) rfl ?_
    refine j_callS2 (dk dt_X12_compare 32 rfl) sl_X12_628 (T_X12_holds r_40 r_x2 H) rfl (by decide) (Nat.zero_le _) (Nat.zero_le _) (Nat.le_of_ble_eq_true rfl) (fun v_44 h_44 P_44 => ?_)
    obtain ⟨x_44, rfl, r_44, rfl, H⟩ := P_44
    dsimp only [rs]
    refine jz_callV2 (dk dt_X12_compare 33 rfl) vl_X12_544 rfl (T_X12_truth r_x1 r_44 m_13 H) m_13.1.1 rfl (by decide) (Nat.zero_le _) (Nat.zero_le _) (Nat.le_of_ble_eq_true rfl) (fun v_47 h_47 P_47 => ?_)
    obtain ⟨u_47, rfl, m_47, H⟩ := P_47
    dsimp only [rs]
    refine j_goto 82 (dk dt_X12_compare 34 rfl) (by decide) ?_
    exact j_el (T_X12_compare_82  m_47   H) trivial
  · refine j_iload_n (dk dt_X12_compare 35 rfl) rfl ?_
    refine j_iconst (v := Int32.ofInt 2) (dk dt_X12_compare 36 rfl) (by decide) ?_
    refine jz_icmp_ge 76 (dk dt_X12_compare 37 rfl) (by decide) r_x2 (by decide) H (fun H => ?_) (fun H => ?_)
    · refine j_aload_n (dk dt_X12_compare 48 rfl) rfl ?_
      refine j_iload_n (dk dt_X12_compare 49 rfl) rfl ?_
      refine j_iconst (v := Int32.ofInt 3) (dk dt_X12_compare 50 rfl) (by decide) ?_
      refine jz_callV2 (dk dt_X12_compare 51 rfl) vl_X12_541 rfl (T_X12_error r_x1 (by decide) m_13 H) m_13.1.1 rfl (by decide) (Nat.zero_le _) (Nat.zero_le _) (Nat.le_of_ble_eq_true rfl) (fun v_79 h_79 P_79 => ?_)
      obtain ⟨u_79, rfl, m_79, H⟩ := P_79
      dsimp only [rs]
      exact j_el (T_X12_compare_82  m_79   H) trivial
    · refine j_aload_n (dk dt_X12_compare 38 rfl) rfl ?_
      refine j_iload_n (dk dt_X12_compare 39 rfl) rfl ?_
      refine j_iload_n (dk dt_X12_compare 40 rfl) rfl ?_
      refine j_iconst (v := Int32.ofInt 1) (dk dt_X12_compare 41 rfl) (by decide) ?_
      refine jz_icmp_ne 69 (dk dt_X12_compare 42 rfl) (by decide) r_x2 (by decide) H (fun H => ?_) (fun H => ?_)
      · refine j_iconst (v := Int32.ofInt 1) (dk dt_X12_compare 43 rfl) (by decide) ?_
        refine j_goto 70 (dk dt_X12_compare 44 rfl) (by decide) ?_
        exact j_el (T_X12_compare_70 r_x1 (by decide) m_13   H) trivial
      · refine j_iconst (v := Int32.ofInt 0) (dk dt_X12_compare 45 rfl) (by decide) ?_
        exact j_el (T_X12_compare_70 r_x1 (by decide) m_13   H) trivial
def F_X12_conflict_105  (s0 : Int) (u : Mu) (P : Int → Mu → Prop) : Prop :=
  P s0 u
theorem T_X12_conflict_105  {s0 : Int} {u : Mu} {P : Int → Mu → Prop} {h : Hp} {g : Nat → Nat} (r_s0 : R32 s0) (m : Ms h g u)   (H : F_X12_conflict_105 s0 u P) : J mX12_conflict 3 0 0 (nx (QMI g P)) 105 [none, none, none] [ii (s0)] h := by
  unfold F_X12_conflict_105 at H
  exact j_ireturn (dk dt_X12_conflict 50 rfl) rfl rfl ⟨_, _, rfl, r_s0, m, H⟩
def F_X12_conflict  (x1 : Int) (x2 : Int) (u : Mu) (P : Int → Mu → Prop) : Prop :=
  (∀ u_2, u_2 = uI u 0 0 0 → F_X12_in x1 0 (w32 ((mI u_2 0 98) - 1)) (fun x_13 => (if x_13 = 0 then P (-1) u_2 else (if x2 = 0 then (0 ≤ x1 ∧ x1 < 370 ∧ P (mI u_2 91 x1) u_2) else (if x2 = 1 then (0 ≤ x1 ∧ x1 < 370 ∧ F_X12_placeOf 40 0 (mI u_2 92 x1) u_2 (fun x_69 => P (w32 (x_69 + 1)) u_2)) else (if x2 = 2 then (0 ≤ x1 ∧ x1 < 370 ∧ F_X12_placeOf 40 1 (mI u_2 93 x1) u_2 (fun x_85 => P (w32 (x_85 + 1)) u_2)) else (if x2 = 3 then (0 ≤ x1 ∧ x1 < 370 ∧ (if mI u_2 97 x1 = 0 then F_X12_conflict_105 0 u_2 P else F_X12_conflict_105 1 u_2 P)) else P (-1) u_2)))))))
theorem T_X12_conflict  {x1 : Int} {x2 : Int} {u : Mu} {P : Int → Mu → Prop} {h : Hp} {g : Nat → Nat} (r_x1 : R32 x1) (r_x2 : R32 x2) (m : Ms h g u)  (H : F_X12_conflict x1 x2 u P) : Con mX12_conflict 3 0 0 [vr (some (g 0)), ii (x1), ii (x2)] h (QMI g P) := by
  refine con_of rfl (Nat.le_of_ble_eq_true rfl) (by decide) ?_
  show J mX12_conflict 3 0 0 _ 0 [some (vr (some (g 0))), some (ii (x1)), some (ii (x2))] [] h
  unfold F_X12_conflict at H
  refine j_aload_n (dk dt_X12_conflict 0 rfl) rfl ?_
  refine j_iconst (v := Int32.ofInt 0) (dk dt_X12_conflict 1 rfl) (by decide) ?_
  refine jm_putI (kz := 0) (dk dt_X12_conflict 2 rfl) fl_X12_202 rfl rfl rfl rfl m (by decide) (fun h_2 m_2 => ?_)
  replace H := H _ rfl
  refine j_iload_n (dk dt_X12_conflict 3 rfl) rfl ?_
  refine j_iconst (v := Int32.ofInt 0) (dk dt_X12_conflict 4 rfl) (by decide) ?_
  refine j_aload_n (dk dt_X12_conflict 5 rfl) rfl ?_
  refine jm_getI (kz := 98) (dk dt_X12_conflict 6 rfl) fl_X12_868 rfl rfl m_2 ?_
  refine j_iconst (v := Int32.ofInt 1) (dk dt_X12_conflict 7 rfl) (by decide) ?_
  refine jz_isub (dk dt_X12_conflict 8 rfl) ?_
  refine j_callS3 (dk dt_X12_conflict 9 rfl) sl_X12_220 (T_X12_in r_x1 (by decide) (r32_w _) H) rfl (by decide) (Nat.zero_le _) (Nat.zero_le _) (Nat.le_of_ble_eq_true rfl) (fun v_13 h_13 P_13 => ?_)
  obtain ⟨x_13, rfl, r_13, rfl, H⟩ := P_13
  dsimp only [rs]
  refine jz_if_ne 21 (dk dt_X12_conflict 10 rfl) (by decide) r_13 H (fun H => ?_) (fun H => ?_)
  · refine j_iconst (v := Int32.ofInt (-1)) (dk dt_X12_conflict 11 rfl) (by decide) ?_
    exact j_ireturn (dk dt_X12_conflict 12 rfl) rfl rfl ⟨_, _, rfl, (by decide), m_2, H⟩
  · refine j_iload_n (dk dt_X12_conflict 13 rfl) rfl ?_
    by_cases y_22_0 : x2 = 0
    · rw [if_pos y_22_0] at H
      refine jz_tabIn 0 52 (dk dt_X12_conflict 14 rfl) r_x2 y_22_0 (by decide) (by decide) rfl (by decide) ?_
      refine j_aload_n (dk dt_X12_conflict 15 rfl) rfl ?_
      refine jm_getA (dk dt_X12_conflict 16 rfl) fl_X12_165 rfl (c := 14) rfl m_2 ?_
      refine j_iload_n (dk dt_X12_conflict 17 rfl) rfl ?_
      obtain ⟨p_57, q_57, H⟩ := H
      refine jm_iald (dk dt_X12_conflict 18 rfl) rfl rfl m_2 p_57 q_57 ?_
      exact j_ireturn (dk dt_X12_conflict 19 rfl) rfl rfl ⟨_, _, rfl, (m_2.2.1.1 _ _), m_2, H⟩
    rw [if_neg y_22_0] at H
    by_cases y_22_1 : x2 = 1
    · rw [if_pos y_22_1] at H
      refine jz_tabIn 1 59 (dk dt_X12_conflict 14 rfl) r_x2 y_22_1 (by decide) (by decide) rfl (by decide) ?_
      refine j_aload_n (dk dt_X12_conflict 20 rfl) rfl ?_
      refine j_bipush (v := Int32.ofInt 40) (dk dt_X12_conflict 21 rfl) (by decide) ?_
      refine j_iconst (v := Int32.ofInt 0) (dk dt_X12_conflict 22 rfl) (by decide) ?_
      refine j_aload_n (dk dt_X12_conflict 23 rfl) rfl ?_
      refine jm_getA (dk dt_X12_conflict 24 rfl) fl_X12_168 rfl (c := 14) rfl m_2 ?_
      refine j_iload_n (dk dt_X12_conflict 25 rfl) rfl ?_
      obtain ⟨p_68, q_68, H⟩ := H
      refine jm_iald (dk dt_X12_conflict 26 rfl) rfl rfl m_2 p_68 q_68 ?_
      refine jz_callV3 (dk dt_X12_conflict 27 rfl) vl_X12_217 rfl (T_X12_placeOf (by decide) (by decide) (m_2.2.1.1 _ _) m_2 H) m_2.1.1 rfl (by decide) (Nat.zero_le _) (Nat.zero_le _) (Nat.le_of_ble_eq_true rfl) (fun v_69 h_69 P_69 => ?_)
      obtain ⟨x_69, rfl, r_69, rfl, H⟩ := P_69
      dsimp only [rs]
      refine j_iconst (v := Int32.ofInt 1) (dk dt_X12_conflict 28 rfl) (by decide) ?_
      refine jz_iadd (dk dt_X12_conflict 29 rfl) ?_
      exact j_ireturn (dk dt_X12_conflict 30 rfl) rfl rfl ⟨_, _, rfl, (r32_w _), m_2, H⟩
    rw [if_neg y_22_1] at H
    by_cases y_22_2 : x2 = 2
    · rw [if_pos y_22_2] at H
      refine jz_tabIn 2 75 (dk dt_X12_conflict 14 rfl) r_x2 y_22_2 (by decide) (by decide) rfl (by decide) ?_
      refine j_aload_n (dk dt_X12_conflict 31 rfl) rfl ?_
      refine j_bipush (v := Int32.ofInt 40) (dk dt_X12_conflict 32 rfl) (by decide) ?_
      refine j_iconst (v := Int32.ofInt 1) (dk dt_X12_conflict 33 rfl) (by decide) ?_
      refine j_aload_n (dk dt_X12_conflict 34 rfl) rfl ?_
      refine jm_getA (dk dt_X12_conflict 35 rfl) fl_X12_171 rfl (c := 14) rfl m_2 ?_
      refine j_iload_n (dk dt_X12_conflict 36 rfl) rfl ?_
      obtain ⟨p_84, q_84, H⟩ := H
      refine jm_iald (dk dt_X12_conflict 37 rfl) rfl rfl m_2 p_84 q_84 ?_
      refine jz_callV3 (dk dt_X12_conflict 38 rfl) vl_X12_217 rfl (T_X12_placeOf (by decide) (by decide) (m_2.2.1.1 _ _) m_2 H) m_2.1.1 rfl (by decide) (Nat.zero_le _) (Nat.zero_le _) (Nat.le_of_ble_eq_true rfl) (fun v_85 h_85 P_85 => ?_)
      obtain ⟨x_85, rfl, r_85, rfl, H⟩ := P_85
      dsimp only [rs]
      refine j_iconst (v := Int32.ofInt 1) (dk dt_X12_conflict 39 rfl) (by decide) ?_
      refine jz_iadd (dk dt_X12_conflict 40 rfl) ?_
      exact j_ireturn (dk dt_X12_conflict 41 rfl) rfl rfl ⟨_, _, rfl, (r32_w _), m_2, H⟩
    rw [if_neg y_22_2] at H
    by_cases y_22_3 : x2 = 3
    · rw [if_pos y_22_3] at H
      refine jz_tabIn 3 91 (dk dt_X12_conflict 14 rfl) r_x2 y_22_3 (by decide) (by decide) rfl (by decide) ?_
      refine j_aload_n (dk dt_X12_conflict 42 rfl) rfl ?_
      refine jm_getA (dk dt_X12_conflict 43 rfl) fl_X12_183 rfl (c := 16) rfl m_2 ?_
      refine j_iload_n (dk dt_X12_conflict 44 rfl) rfl ?_
      obtain ⟨p_96, q_96, H⟩ := H
      refine jm_zald (dk dt_X12_conflict 45 rfl) rfl rfl m_2 p_96 q_96 ?_
      refine jz_if_eq 104 (dk dt_X12_conflict 46 rfl) (by decide) (m_2.2.1.1 _ _) H (fun H => ?_) (fun H => ?_)
      · refine j_iconst (v := Int32.ofInt 0) (dk dt_X12_conflict 49 rfl) (by decide) ?_
        exact j_el (T_X12_conflict_105 (by decide) m_2   H) trivial
      · refine j_iconst (v := Int32.ofInt 1) (dk dt_X12_conflict 47 rfl) (by decide) ?_
        refine j_goto 105 (dk dt_X12_conflict 48 rfl) (by decide) ?_
        exact j_el (T_X12_conflict_105 (by decide) m_2   H) trivial
    rw [if_neg y_22_3] at H
    refine jz_tabOut 106 (dk dt_X12_conflict 14 rfl) r_x2 (by omega) (by decide) ?_
    refine j_iconst (v := Int32.ofInt (-1)) (dk dt_X12_conflict 51 rfl) (by decide) ?_
    exact j_ireturn (dk dt_X12_conflict 52 rfl) rfl rfl ⟨_, _, rfl, (by decide), m_2, H⟩
def F_X12_further_49  (s0 : Int) (u : Mu) (P : Int → Prop) : Prop :=
  P s0
theorem T_X12_further_49  {s0 : Int} {u : Mu} {P : Int → Prop} {h : Hp} {g : Nat → Nat} (r_s0 : R32 s0) (m : Ms h g u)   (H : F_X12_further_49 s0 u P) : J mX12_further 3 0 0 (nx (QPI h P)) 49 [none, none, none, none, none, none] [ii (s0)] h := by
  unfold F_X12_further_49 at H
  exact j_ireturn (dk dt_X12_further 29 rfl) rfl rfl ⟨_, rfl, r_s0, rfl, H⟩
def F_X12_further_34  (u : Mu) (P : Int → Prop) : Prop :=
  F_X12_further_49 (-1) u P
theorem T_X12_further_34  {u : Mu} {P : Int → Prop} {h : Hp} {g : Nat → Nat}  (m : Ms h g u)   (H : F_X12_further_34 u P) : J mX12_further 3 0 0 (nx (QPI h P)) 34 [none, none, none, none, none, none] [] h := by
  unfold F_X12_further_34 at H
  refine j_iconst (v := Int32.ofInt (-1)) (dk dt_X12_further 20 rfl) (by decide) ?_
  refine j_goto 49 (dk dt_X12_further 21 rfl) (by decide) ?_
  exact j_el (T_X12_further_49 (by decide) m   H) trivial
def F_X12_further  (x1 : Int) (x2 : Int) (x3 : Int) (x4 : Int) (u : Mu) (P : Int → Prop) : Prop :=
  F_X12_placeOf x1 x2 x3 u (fun x_4 => (if x_4 < 0 then F_X12_further_34 u P else F_X12_linesOf x1 x2 u (fun x_23 => F_X12_in (w32 (x_4 + x4)) 0 (w32 (x_23 - 1)) (fun x_28 => (if x_28 = 0 then F_X12_further_34 u P else F_X12_lineAt x1 x2 (w32 (x_4 + x4)) u (fun x_46 => F_X12_further_49 x_46 u P))))))
theorem T_X12_further  {x1 : Int} {x2 : Int} {x3 : Int} {x4 : Int} {u : Mu} {P : Int → Prop} {h : Hp} {g : Nat → Nat} (r_x1 : R32 x1) (r_x2 : R32 x2) (r_x3 : R32 x3) (r_x4 : R32 x4) (m : Ms h g u)  (H : F_X12_further x1 x2 x3 x4 u P) : Con mX12_further 3 0 0 [vr (some (g 0)), ii (x1), ii (x2), ii (x3), ii (x4)] h (QPI h P) := by
  refine con_of rfl (Nat.le_of_ble_eq_true rfl) (by decide) ?_
  show J mX12_further 3 0 0 _ 0 [some (vr (some (g 0))), some (ii (x1)), some (ii (x2)), some (ii (x3)), some (ii (x4)), none] [] h
  unfold F_X12_further at H
  refine j_aload_n (dk dt_X12_further 0 rfl) rfl ?_
  refine j_iload_n (dk dt_X12_further 1 rfl) rfl ?_
  refine j_iload_n (dk dt_X12_further 2 rfl) rfl ?_
  refine j_iload_n (dk dt_X12_further 3 rfl) rfl ?_
  refine jz_callV3 (dk dt_X12_further 4 rfl) vl_X12_217 rfl (T_X12_placeOf r_x1 r_x2 r_x3 m H) m.1.1 rfl (by decide) (Nat.zero_le _) (Nat.zero_le _) (Nat.le_of_ble_eq_true rfl) (fun v_4 h_4 P_4 => ?_)
  obtain ⟨x_4, rfl, r_4, rfl, H⟩ := P_4
  dsimp only [rs]
  refine j_istore (dk dt_X12_further 5 rfl) (by decide) ?_
  refine j_iload (dk dt_X12_further 6 rfl) rfl ?_
  refine jz_if_lt 34 (dk dt_X12_further 7 rfl) (by decide) r_4 H (fun H => ?_) (fun H => ?_)
  · exact j_el (T_X12_further_34  m   H) trivial
  · refine j_iload (dk dt_X12_further 8 rfl) rfl ?_
    refine j_iload (dk dt_X12_further 9 rfl) rfl ?_
    refine jz_iadd (dk dt_X12_further 10 rfl) ?_
    refine j_iconst (v := Int32.ofInt 0) (dk dt_X12_further 11 rfl) (by decide) ?_
    refine j_aload_n (dk dt_X12_further 12 rfl) rfl ?_
    refine j_iload_n (dk dt_X12_further 13 rfl) rfl ?_
    refine j_iload_n (dk dt_X12_further 14 rfl) rfl ?_
    refine jz_callV2 (dk dt_X12_further 15 rfl) vl_X12_209 rfl (T_X12_linesOf r_x1 r_x2 m H) m.1.1 rfl (by decide) (Nat.zero_le _) (Nat.zero_le _) (Nat.le_of_ble_eq_true rfl) (fun v_23 h_23 P_23 => ?_)
    obtain ⟨x_23, rfl, r_23, rfl, H⟩ := P_23
    dsimp only [rs]
    refine j_iconst (v := Int32.ofInt 1) (dk dt_X12_further 16 rfl) (by decide) ?_
    refine jz_isub (dk dt_X12_further 17 rfl) ?_
    refine j_callS3 (dk dt_X12_further 18 rfl) sl_X12_220 (T_X12_in (r32_w _) (by decide) (r32_w _) H) rfl (by decide) (Nat.zero_le _) (Nat.zero_le _) (Nat.le_of_ble_eq_true rfl) (fun v_28 h_28 P_28 => ?_)
    obtain ⟨x_28, rfl, r_28, rfl, H⟩ := P_28
    dsimp only [rs]
    refine jz_if_ne 38 (dk dt_X12_further 19 rfl) (by decide) r_28 H (fun H => ?_) (fun H => ?_)
    · exact j_el (T_X12_further_34  m   H) trivial
    · refine j_aload_n (dk dt_X12_further 22 rfl) rfl ?_
      refine j_iload_n (dk dt_X12_further 23 rfl) rfl ?_
      refine j_iload_n (dk dt_X12_further 24 rfl) rfl ?_
      refine j_iload (dk dt_X12_further 25 rfl) rfl ?_
      refine j_iload (dk dt_X12_further 26 rfl) rfl ?_
      refine jz_iadd (dk dt_X12_further 27 rfl) ?_
      refine jz_callV3 (dk dt_X12_further 28 rfl) vl_X12_213 rfl (T_X12_lineAt r_x1 r_x2 (r32_w _) m H) m.1.1 rfl (by decide) (Nat.zero_le _) (Nat.zero_le _) (Nat.le_of_ble_eq_true rfl) (fun v_46 h_46 P_46 => ?_)
      obtain ⟨x_46, rfl, r_46, rfl, H⟩ := P_46
      dsimp only [rs]
      exact j_el (T_X12_further_49 r_46 m   H) trivial
def F_X12_shift_312  (s1 : Int) (s2 : Int) (u : Mu) (P : Mu → Prop) : Prop :=
  (0 ≤ s1 ∧ s1 < 60420 ∧ (∀ u_312, u_312 = uI u 35 s1 s2 → P u_312))
theorem T_X12_shift_312  {s1 : Int} {s2 : Int} {u : Mu} {P : Mu → Prop} {h : Hp} {g : Nat → Nat} (r_s1 : R32 s1) (r_s2 : R32 s2) (m : Ms h g u)   (H : F_X12_shift_312 s1 s2 u P) : J mX12_shift 4 0 0 (nx (QMV g P)) 312 [none, none, none, none, none, none, none, none, none, none, none, none] [ii (s2), ii (s1), vr (some (g (35)))] h := by
  unfold F_X12_shift_312 at H
  obtain ⟨p_312, q_312, H⟩ := H
  refine jm_iast (dk dt_X12_shift 172 rfl) rfl rfl m p_312 q_312 r_s2 (fun h_312 m_312 => ?_)
  replace H := H _ rfl
  exact j_return (dk dt_X12_shift 173 rfl) rfl ⟨_, rfl, m_312, H⟩
def F_X12_shift_311  (s1 : Int) (u : Mu) (P : Mu → Prop) : Prop :=
  F_X12_shift_312 s1 (-1) u P
theorem T_X12_shift_311  {s1 : Int} {u : Mu} {P : Mu → Prop} {h : Hp} {g : Nat → Nat} (r_s1 : R32 s1) (m : Ms h g u)   (H : F_X12_shift_311 s1 u P) : J mX12_shift 4 0 0 (nx (QMV g P)) 311 [none, none, none, none, none, none, none, none, none, none, none, none] [ii (s1), vr (some (g (35)))] h := by
  unfold F_X12_shift_311 at H
  refine j_iconst (v := Int32.ofInt (-1)) (dk dt_X12_shift 171 rfl) (by decide) ?_
  exact j_el (T_X12_shift_312 r_s1 (by decide) m   H) trivial
def F_X12_shift_290  (x1 : Int) (x6 : Int) (x10 : Int) (x11 : Int) (s1 : Int) (s2 : Int) (u : Mu) (P : Mu → Prop) : Prop :=
  (0 ≤ s1 ∧ s1 < 60420 ∧ (∀ u_290, u_290 = uI u 34 s1 s2 → (if x11 = 0 then F_X12_shift_311 x1 u_290 P else (if x6 = 0 then F_X12_shift_311 x1 u_290 P else F_X12_shift_312 x1 x10 u_290 P))))
theorem T_X12_shift_290  {x1 : Int} {x6 : Int} {x10 : Int} {x11 : Int} {s1 : Int} {s2 : Int} {u : Mu} {P : Mu → Prop} {h : Hp} {g : Nat → Nat} (r_x1 : R32 x1) (r_x6 : R32 x6) (r_x10 : R32 x10) (r_x11 : R32 x11) (r_s1 : R32 s1) (r_s2 : R32 s2) (m : Ms h g u)   (H : F_X12_shift_290 x1 x6 x10 x11 s1 s2 u P) : J mX12_shift 4 0 0 (nx (QMV g P)) 290 [some (vr (some (g 0))), some (ii (x1)), none, none, none, none, some (ii (x6)), none, none, none, some (ii (x10)), some (ii (x11))] [ii (s2), ii (s1), vr (some (g (34)))] h := by
  unfold F_X12_shift_290 at H
  obtain ⟨p_290, q_290, H⟩ := H
  refine jm_iast (dk dt_X12_shift 161 rfl) rfl rfl m p_290 q_290 r_s2 (fun h_290 m_290 => ?_)
  replace H := H _ rfl
  refine j_aload_n (dk dt_X12_shift 162 rfl) rfl ?_
  refine jm_getA (dk dt_X12_shift 163 rfl) fl_X12_94 rfl (c := 14) rfl m_290 ?_
  refine j_iload_n (dk dt_X12_shift 164 rfl) rfl ?_
  refine j_iload (dk dt_X12_shift 165 rfl) rfl ?_
  refine jz_if_eq 311 (dk dt_X12_shift 166 rfl) (by decide) r_x11 H (fun H => ?_) (fun H => ?_)
  · exact j_el (T_X12_shift_311 r_x1 m_290   H) trivial
  · refine j_iload (dk dt_X12_shift 167 rfl) rfl ?_
    refine jz_if_eq 311 (dk dt_X12_shift 168 rfl) (by decide) r_x6 H (fun H => ?_) (fun H => ?_)
    · exact j_el (T_X12_shift_311 r_x1 m_290   H) trivial
    · refine j_iload (dk dt_X12_shift 169 rfl) rfl ?_
      refine j_goto 312 (dk dt_X12_shift 170 rfl) (by decide) ?_
      exact j_el (T_X12_shift_312 r_x1 r_x10 m_290   H) trivial
def F_X12_shift_289  (x1 : Int) (x6 : Int) (x10 : Int) (x11 : Int) (s1 : Int) (u : Mu) (P : Mu → Prop) : Prop :=
  F_X12_shift_290 x1 x6 x10 x11 s1 (-1) u P
theorem T_X12_shift_289  {x1 : Int} {x6 : Int} {x10 : Int} {x11 : Int} {s1 : Int} {u : Mu} {P : Mu → Prop} {h : Hp} {g : Nat → Nat} (r_x1 : R32 x1) (r_x6 : R32 x6) (r_x10 : R32 x10) (r_x11 : R32 x11) (r_s1 : R32 s1) (m : Ms h g u)   (H : F_X12_shift_289 x1 x6 x10 x11 s1 u P) : J mX12_shift 4 0 0 (nx (QMV g P)) 289 [some (vr (some (g 0))), some (ii (x1)), none, none, none, none, some (ii (x6)), none, none, none, some (ii (x10)), some (ii (x11))] [ii (s1), vr (some (g (34)))] h := by
  unfold F_X12_shift_289 at H
  refine j_iconst (v := Int32.ofInt (-1)) (dk dt_X12_shift 160 rfl) (by decide) ?_
  exact j_el (T_X12_shift_290 r_x1 r_x6 r_x10 r_x11 r_s1 (by decide) m   H) (And.intro rfl (And.intro rfl (And.intro rfl (And.intro rfl (And.intro rfl trivial)))))
def F_X12_shift_268  (x1 : Int) (x6 : Int) (x9 : Int) (x10 : Int) (x11 : Int) (s1 : Int) (s2 : Int) (u : Mu) (P : Mu → Prop) : Prop :=
  (0 ≤ s1 ∧ s1 < 60420 ∧ (∀ u_268, u_268 = uI u 33 s1 s2 → (if x11 = 0 then F_X12_shift_289 x1 x6 x10 x11 x1 u_268 P else (if x6 = 0 then F_X12_shift_289 x1 x6 x10 x11 x1 u_268 P else F_X12_shift_290 x1 x6 x10 x11 x1 x9 u_268 P))))
theorem T_X12_shift_268  {x1 : Int} {x6 : Int} {x9 : Int} {x10 : Int} {x11 : Int} {s1 : Int} {s2 : Int} {u : Mu} {P : Mu → Prop} {h : Hp} {g : Nat → Nat} (r_x1 : R32 x1) (r_x6 : R32 x6) (r_x9 : R32 x9) (r_x10 : R32 x10) (r_x11 : R32 x11) (r_s1 : R32 s1) (r_s2 : R32 s2) (m : Ms h g u)   (H : F_X12_shift_268 x1 x6 x9 x10 x11 s1 s2 u P) : J mX12_shift 4 0 0 (nx (QMV g P)) 268 [some (vr (some (g 0))), some (ii (x1)), none, none, none, none, some (ii (x6)), none, none, some (ii (x9)), some (ii (x10)), some (ii (x11))] [ii (s2), ii (s1), vr (some (g (33)))] h := by
  unfold F_X12_shift_268 at H
  obtain ⟨p_268, q_268, H⟩ := H
  refine jm_iast (dk dt_X12_shift 150 rfl) rfl rfl m p_268 q_268 r_s2 (fun h_268 m_268 => ?_)
  replace H := H _ rfl
  refine j_aload_n (dk dt_X12_shift 151 rfl) rfl ?_
  refine jm_getA (dk dt_X12_shift 152 rfl) fl_X12_91 rfl (c := 14) rfl m_268 ?_
  refine j_iload_n (dk dt_X12_shift 153 rfl) rfl ?_
  refine j_iload (dk dt_X12_shift 154 rfl) rfl ?_
  refine jz_if_eq 289 (dk dt_X12_shift 155 rfl) (by decide) r_x11 H (fun H => ?_) (fun H => ?_)
  · exact j_el (T_X12_shift_289 r_x1 r_x6 r_x10 r_x11 r_x1 m_268   H) (And.intro rfl (And.intro rfl (And.intro rfl (And.intro rfl (And.intro rfl trivial)))))
  · refine j_iload (dk dt_X12_shift 156 rfl) rfl ?_
    refine jz_if_eq 289 (dk dt_X12_shift 157 rfl) (by decide) r_x6 H (fun H => ?_) (fun H => ?_)
    · exact j_el (T_X12_shift_289 r_x1 r_x6 r_x10 r_x11 r_x1 m_268   H) (And.intro rfl (And.intro rfl (And.intro rfl (And.intro rfl (And.intro rfl trivial)))))
    · refine j_iload (dk dt_X12_shift 158 rfl) rfl ?_
      refine j_goto 290 (dk dt_X12_shift 159 rfl) (by decide) ?_
      exact j_el (T_X12_shift_290 r_x1 r_x6 r_x10 r_x11 r_x1 r_x9 m_268   H) (And.intro rfl (And.intro rfl (And.intro rfl (And.intro rfl (And.intro rfl trivial)))))
def F_X12_shift_251  (x1 : Int) (x6 : Int) (x8 : Int) (x9 : Int) (x10 : Int) (x11 : Int) (s1 : Int) (s2 : Int) (u : Mu) (P : Mu → Prop) : Prop :=
  (0 ≤ s1 ∧ s1 < 60420 ∧ (∀ u_251, u_251 = uI u 32 s1 s2 → (if x11 = 0 then F_X12_shift_268 x1 x6 x9 x10 x11 x1 (-1) u_251 P else F_X12_shift_268 x1 x6 x9 x10 x11 x1 x8 u_251 P)))
theorem T_X12_shift_251  {x1 : Int} {x6 : Int} {x8 : Int} {x9 : Int} {x10 : Int} {x11 : Int} {s1 : Int} {s2 : Int} {u : Mu} {P : Mu → Prop} {h : Hp} {g : Nat → Nat} (r_x1 : R32 x1) (r_x6 : R32 x6) (r_x8 : R32 x8) (r_x9 : R32 x9) (r_x10 : R32 x10) (r_x11 : R32 x11) (r_s1 : R32 s1) (r_s2 : R32 s2) (m : Ms h g u)   (H : F_X12_shift_251 x1 x6 x8 x9 x10 x11 s1 s2 u P) : J mX12_shift 4 0 0 (nx (QMV g P)) 251 [some (vr (some (g 0))), some (ii (x1)), none, none, none, none, some (ii (x6)), none, some (ii (x8)), some (ii (x9)), some (ii (x10)), some (ii (x11))] [ii (s2), ii (s1), vr (some (g (32)))] h := by
  unfold F_X12_shift_251 at H
  obtain ⟨p_251, q_251, H⟩ := H
  refine jm_iast (dk dt_X12_shift 141 rfl) rfl rfl m p_251 q_251 r_s2 (fun h_251 m_251 => ?_)
  replace H := H _ rfl
  refine j_aload_n (dk dt_X12_shift 142 rfl) rfl ?_
  refine jm_getA (dk dt_X12_shift 143 rfl) fl_X12_88 rfl (c := 14) rfl m_251 ?_
  refine j_iload_n (dk dt_X12_shift 144 rfl) rfl ?_
  refine j_iload (dk dt_X12_shift 145 rfl) rfl ?_
  refine jz_if_eq 267 (dk dt_X12_shift 146 rfl) (by decide) r_x11 H (fun H => ?_) (fun H => ?_)
  · refine j_iconst (v := Int32.ofInt (-1)) (dk dt_X12_shift 149 rfl) (by decide) ?_
    exact j_el (T_X12_shift_268 r_x1 r_x6 r_x9 r_x10 r_x11 r_x1 (by decide) m_251   H) (And.intro rfl (And.intro rfl (And.intro rfl (And.intro rfl (And.intro rfl (And.intro rfl trivial))))))
  · refine j_iload (dk dt_X12_shift 147 rfl) rfl ?_
    refine j_goto 268 (dk dt_X12_shift 148 rfl) (by decide) ?_
    exact j_el (T_X12_shift_268 r_x1 r_x6 r_x9 r_x10 r_x11 r_x1 r_x8 m_251   H) (And.intro rfl (And.intro rfl (And.intro rfl (And.intro rfl (And.intro rfl (And.intro rfl trivial))))))
def F_X12_shift_235  (x1 : Int) (x6 : Int) (x7 : Int) (x8 : Int) (x9 : Int) (x10 : Int) (x11 : Int) (u : Mu) (P : Mu → Prop) : Prop :=
  (if x11 = 0 then F_X12_shift_251 x1 x6 x8 x9 x10 x11 x1 (-1) u P else F_X12_shift_251 x1 x6 x8 x9 x10 x11 x1 x7 u P)
theorem T_X12_shift_235  {x1 : Int} {x6 : Int} {x7 : Int} {x8 : Int} {x9 : Int} {x10 : Int} {x11 : Int} {u : Mu} {P : Mu → Prop} {h : Hp} {g : Nat → Nat} (r_x1 : R32 x1) (r_x6 : R32 x6) (r_x7 : R32 x7) (r_x8 : R32 x8) (r_x9 : R32 x9) (r_x10 : R32 x10) (r_x11 : R32 x11) (m : Ms h g u)   (H : F_X12_shift_235 x1 x6 x7 x8 x9 x10 x11 u P) : J mX12_shift 4 0 0 (nx (QMV g P)) 235 [some (vr (some (g 0))), some (ii (x1)), none, none, none, none, some (ii (x6)), some (ii (x7)), some (ii (x8)), some (ii (x9)), some (ii (x10)), some (ii (x11))] [] h := by
  unfold F_X12_shift_235 at H
  refine j_aload_n (dk dt_X12_shift 133 rfl) rfl ?_
  refine jm_getA (dk dt_X12_shift 134 rfl) fl_X12_85 rfl (c := 14) rfl m ?_
  refine j_iload_n (dk dt_X12_shift 135 rfl) rfl ?_
  refine j_iload (dk dt_X12_shift 136 rfl) rfl ?_
  refine jz_if_eq 250 (dk dt_X12_shift 137 rfl) (by decide) r_x11 H (fun H => ?_) (fun H => ?_)
  · refine j_iconst (v := Int32.ofInt (-1)) (dk dt_X12_shift 140 rfl) (by decide) ?_
    exact j_el (T_X12_shift_251 r_x1 r_x6 r_x8 r_x9 r_x10 r_x11 r_x1 (by decide) m   H) (And.intro rfl (And.intro rfl (And.intro rfl (And.intro rfl (And.intro rfl (And.intro rfl (And.intro rfl trivial)))))))
  · refine j_iload (dk dt_X12_shift 138 rfl) rfl ?_
    refine j_goto 251 (dk dt_X12_shift 139 rfl) (by decide) ?_
    exact j_el (T_X12_shift_251 r_x1 r_x6 r_x8 r_x9 r_x10 r_x11 r_x1 r_x7 m   H) (And.intro rfl (And.intro rfl (And.intro rfl (And.intro rfl (And.intro rfl (And.intro rfl (And.intro rfl trivial)))))))
def F_X12_shift_207  (x1 : Int) (x6 : Int) (x7 : Int) (x8 : Int) (x9 : Int) (x10 : Int) (s0 : Int) (u : Mu) (P : Mu → Prop) : Prop :=
  (if s0 = 0 then (0 ≤ x1 ∧ x1 < 60420 ∧ (∀ u_220, u_220 = uI u 26 x1 4 → (0 ≤ x1 ∧ x1 < 60420 ∧ (∀ u_227, u_227 = uI u_220 36 x1 0 → (0 ≤ x1 ∧ x1 < 60420 ∧ (∀ u_234, u_234 = uI u_227 37 x1 (-1) → F_X12_shift_235 x1 x6 x7 x8 x9 x10 s0 u_234 P)))))) else F_X12_shift_235 x1 x6 x7 x8 x9 x10 s0 u P)
theorem T_X12_shift_207  {x1 : Int} {x6 : Int} {x7 : Int} {x8 : Int} {x9 : Int} {x10 : Int} {s0 : Int} {u : Mu} {P : Mu → Prop} {h : Hp} {g : Nat → Nat} (r_x1 : R32 x1) (r_x6 : R32 x6) (r_x7 : R32 x7) (r_x8 : R32 x8) (r_x9 : R32 x9) (r_x10 : R32 x10) (r_s0 : R32 s0) (m : Ms h g u)   (H : F_X12_shift_207 x1 x6 x7 x8 x9 x10 s0 u P) : J mX12_shift 4 0 0 (nx (QMV g P)) 207 [some (vr (some (g 0))), some (ii (x1)), none, none, none, none, some (ii (x6)), some (ii (x7)), some (ii (x8)), some (ii (x9)), some (ii (x10)), none] [ii (s0)] h := by
  unfold F_X12_shift_207 at H
  refine j_istore (dk dt_X12_shift 115 rfl) (by decide) ?_
  refine j_iload (dk dt_X12_shift 116 rfl) rfl ?_
  refine jz_if_ne 235 (dk dt_X12_shift 117 rfl) (by decide) r_s0 H (fun H => ?_) (fun H => ?_)
  · refine j_aload_n (dk dt_X12_shift 118 rfl) rfl ?_
    refine jm_getA (dk dt_X12_shift 119 rfl) fl_X12_67 rfl (c := 14) rfl m ?_
    refine j_iload_n (dk dt_X12_shift 120 rfl) rfl ?_
    refine j_iconst (v := Int32.ofInt 4) (dk dt_X12_shift 121 rfl) (by decide) ?_
    obtain ⟨p_220, q_220, H⟩ := H
    refine jm_iast (dk dt_X12_shift 122 rfl) rfl rfl m p_220 q_220 (by decide) (fun h_220 m_220 => ?_)
    replace H := H _ rfl
    refine j_aload_n (dk dt_X12_shift 123 rfl) rfl ?_
    refine jm_getA (dk dt_X12_shift 124 rfl) fl_X12_97 rfl (c := 14) rfl m_220 ?_
    refine j_iload_n (dk dt_X12_shift 125 rfl) rfl ?_
    refine j_iconst (v := Int32.ofInt 0) (dk dt_X12_shift 126 rfl) (by decide) ?_
    obtain ⟨p_227, q_227, H⟩ := H
    refine jm_iast (dk dt_X12_shift 127 rfl) rfl rfl m_220 p_227 q_227 (by decide) (fun h_227 m_227 => ?_)
    replace H := H _ rfl
    refine j_aload_n (dk dt_X12_shift 128 rfl) rfl ?_
    refine jm_getA (dk dt_X12_shift 129 rfl) fl_X12_100 rfl (c := 14) rfl m_227 ?_
    refine j_iload_n (dk dt_X12_shift 130 rfl) rfl ?_
    refine j_iconst (v := Int32.ofInt (-1)) (dk dt_X12_shift 131 rfl) (by decide) ?_
    obtain ⟨p_234, q_234, H⟩ := H
    refine jm_iast (dk dt_X12_shift 132 rfl) rfl rfl m_227 p_234 q_234 (by decide) (fun h_234 m_234 => ?_)
    replace H := H _ rfl
    exact j_el (T_X12_shift_235 r_x1 r_x6 r_x7 r_x8 r_x9 r_x10 r_s0 m_234   H) (And.intro rfl (And.intro rfl (And.intro rfl (And.intro rfl (And.intro rfl (And.intro rfl (And.intro rfl (And.intro rfl trivial))))))))
  · exact j_el (T_X12_shift_235 r_x1 r_x6 r_x7 r_x8 r_x9 r_x10 r_s0 m   H) (And.intro rfl (And.intro rfl (And.intro rfl (And.intro rfl (And.intro rfl (And.intro rfl (And.intro rfl (And.intro rfl trivial))))))))
def F_X12_shift_206  (x1 : Int) (x6 : Int) (x7 : Int) (x8 : Int) (x9 : Int) (x10 : Int) (u : Mu) (P : Mu → Prop) : Prop :=
  F_X12_shift_207 x1 x6 x7 x8 x9 x10 0 u P
theorem T_X12_shift_206  {x1 : Int} {x6 : Int} {x7 : Int} {x8 : Int} {x9 : Int} {x10 : Int} {u : Mu} {P : Mu → Prop} {h : Hp} {g : Nat → Nat} (r_x1 : R32 x1) (r_x6 : R32 x6) (r_x7 : R32 x7) (r_x8 : R32 x8) (r_x9 : R32 x9) (r_x10 : R32 x10) (m : Ms h g u)   (H : F_X12_shift_206 x1 x6 x7 x8 x9 x10 u P) : J mX12_shift 4 0 0 (nx (QMV g P)) 206 [some (vr (some (g 0))), some (ii (x1)), none, none, none, none, some (ii (x6)), some (ii (x7)), some (ii (x8)), some (ii (x9)), some (ii (x10)), none] [] h := by
  unfold F_X12_shift_206 at H
  refine j_iconst (v := Int32.ofInt 0) (dk dt_X12_shift 114 rfl) (by decide) ?_
  exact j_el (T_X12_shift_207 r_x1 r_x6 r_x7 r_x8 r_x9 r_x10 (by decide) m   H) (And.intro rfl (And.intro rfl (And.intro rfl (And.intro rfl (And.intro rfl (And.intro rfl (And.intro rfl trivial)))))))
def F_X12_shift_180  (x1 : Int) (x6 : Int) (x7 : Int) (x8 : Int) (x9 : Int) (s0 : Int) (u : Mu) (P : Mu → Prop) : Prop :=
  (if x7 < 0 then F_X12_shift_206 x1 x6 x7 x8 x9 s0 u P else (if x8 < 0 then F_X12_shift_206 x1 x6 x7 x8 x9 s0 u P else (if x9 < 0 then F_X12_shift_206 x1 x6 x7 x8 x9 s0 u P else (if s0 < 0 then F_X12_shift_206 x1 x6 x7 x8 x9 s0 u P else F_X12_shift_207 x1 x6 x7 x8 x9 s0 1 u P))))
theorem T_X12_shift_180  {x1 : Int} {x6 : Int} {x7 : Int} {x8 : Int} {x9 : Int} {s0 : Int} {u : Mu} {P : Mu → Prop} {h : Hp} {g : Nat → Nat} (r_x1 : R32 x1) (r_x6 : R32 x6) (r_x7 : R32 x7) (r_x8 : R32 x8) (r_x9 : R32 x9) (r_s0 : R32 s0) (m : Ms h g u)   (H : F_X12_shift_180 x1 x6 x7 x8 x9 s0 u P) : J mX12_shift 4 0 0 (nx (QMV g P)) 180 [some (vr (some (g 0))), some (ii (x1)), none, none, none, none, some (ii (x6)), some (ii (x7)), some (ii (x8)), some (ii (x9)), none, none] [ii (s0)] h := by
  unfold F_X12_shift_180 at H
  refine j_istore (dk dt_X12_shift 103 rfl) (by decide) ?_
  refine j_iload (dk dt_X12_shift 104 rfl) rfl ?_
  refine jz_if_lt 206 (dk dt_X12_shift 105 rfl) (by decide) r_x7 H (fun H => ?_) (fun H => ?_)
  · exact j_el (T_X12_shift_206 r_x1 r_x6 r_x7 r_x8 r_x9 r_s0 m   H) (And.intro rfl (And.intro rfl (And.intro rfl (And.intro rfl (And.intro rfl (And.intro rfl (And.intro rfl trivial)))))))
  · refine j_iload (dk dt_X12_shift 106 rfl) rfl ?_
    refine jz_if_lt 206 (dk dt_X12_shift 107 rfl) (by decide) r_x8 H (fun H => ?_) (fun H => ?_)
    · exact j_el (T_X12_shift_206 r_x1 r_x6 r_x7 r_x8 r_x9 r_s0 m   H) (And.intro rfl (And.intro rfl (And.intro rfl (And.intro rfl (And.intro rfl (And.intro rfl (And.intro rfl trivial)))))))
    · refine j_iload (dk dt_X12_shift 108 rfl) rfl ?_
      refine jz_if_lt 206 (dk dt_X12_shift 109 rfl) (by decide) r_x9 H (fun H => ?_) (fun H => ?_)
      · exact j_el (T_X12_shift_206 r_x1 r_x6 r_x7 r_x8 r_x9 r_s0 m   H) (And.intro rfl (And.intro rfl (And.intro rfl (And.intro rfl (And.intro rfl (And.intro rfl (And.intro rfl trivial)))))))
      · refine j_iload (dk dt_X12_shift 110 rfl) rfl ?_
        refine jz_if_lt 206 (dk dt_X12_shift 111 rfl) (by decide) r_s0 H (fun H => ?_) (fun H => ?_)
        · exact j_el (T_X12_shift_206 r_x1 r_x6 r_x7 r_x8 r_x9 r_s0 m   H) (And.intro rfl (And.intro rfl (And.intro rfl (And.intro rfl (And.intro rfl (And.intro rfl (And.intro rfl trivial)))))))
        · refine j_iconst (v := Int32.ofInt 1) (dk dt_X12_shift 112 rfl) (by decide) ?_
          refine j_goto 207 (dk dt_X12_shift 113 rfl) (by decide) ?_
          exact j_el (T_X12_shift_207 r_x1 r_x6 r_x7 r_x8 r_x9 r_s0 (by decide) m   H) (And.intro rfl (And.intro rfl (And.intro rfl (And.intro rfl (And.intro rfl (And.intro rfl (And.intro rfl trivial)))))))
def F_X12_shift_139  (x1 : Int) (x3 : Int) (x4 : Int) (x5 : Int) (x6 : Int) (x7 : Int) (x8 : Int) (s0 : Int) (u : Mu) (P : Mu → Prop) : Prop :=
  (if x6 = 0 then F_X12_shift_180 x1 x6 x7 x8 s0 0 u P else (if bAnd x5 4 ≤ 0 then (0 ≤ x1 ∧ x1 < 60420 ∧ F_X12_further x4 1 (mI u 35 x1) x3 u (fun x_177 => F_X12_shift_180 x1 x6 x7 x8 s0 x_177 u P)) else (0 ≤ x1 ∧ x1 < 60420 ∧ F_X12_shift_180 x1 x6 x7 x8 s0 (mI u 35 x1) u P)))
theorem T_X12_shift_139  {x1 : Int} {x3 : Int} {x4 : Int} {x5 : Int} {x6 : Int} {x7 : Int} {x8 : Int} {s0 : Int} {u : Mu} {P : Mu → Prop} {h : Hp} {g : Nat → Nat} (r_x1 : R32 x1) (r_x3 : R32 x3) (r_x4 : R32 x4) (r_x5 : R32 x5) (r_x6 : R32 x6) (r_x7 : R32 x7) (r_x8 : R32 x8) (r_s0 : R32 s0) (m : Ms h g u)   (H : F_X12_shift_139 x1 x3 x4 x5 x6 x7 x8 s0 u P) : J mX12_shift 4 0 0 (nx (QMV g P)) 139 [some (vr (some (g 0))), some (ii (x1)), none, some (ii (x3)), some (ii (x4)), some (ii (x5)), some (ii (x6)), some (ii (x7)), some (ii (x8)), none, none, none] [ii (s0)] h := by
  unfold F_X12_shift_139 at H
  refine j_istore (dk dt_X12_shift 80 rfl) (by decide) ?_
  refine j_iload (dk dt_X12_shift 81 rfl) rfl ?_
  refine jz_if_ne 150 (dk dt_X12_shift 82 rfl) (by decide) r_x6 H (fun H => ?_) (fun H => ?_)
  · refine j_iconst (v := Int32.ofInt 0) (dk dt_X12_shift 83 rfl) (by decide) ?_
    refine j_goto 180 (dk dt_X12_shift 84 rfl) (by decide) ?_
    exact j_el (T_X12_shift_180 r_x1 r_x6 r_x7 r_x8 r_s0 (by decide) m   H) (And.intro rfl (And.intro rfl (And.intro rfl (And.intro rfl (And.intro rfl (And.intro rfl trivial))))))
  · refine j_iload (dk dt_X12_shift 85 rfl) rfl ?_
    refine j_iconst (v := Int32.ofInt 4) (dk dt_X12_shift 86 rfl) (by decide) ?_
    refine jz_iand (dk dt_X12_shift 87 rfl) ?_
    refine jz_if_le 166 (dk dt_X12_shift 88 rfl) (by decide) (r32_t _) H (fun H => ?_) (fun H => ?_)
    · refine j_aload_n (dk dt_X12_shift 94 rfl) rfl ?_
      refine j_iload (dk dt_X12_shift 95 rfl) rfl ?_
      refine j_iconst (v := Int32.ofInt 1) (dk dt_X12_shift 96 rfl) (by decide) ?_
      refine j_aload_n (dk dt_X12_shift 97 rfl) rfl ?_
      refine jm_getA (dk dt_X12_shift 98 rfl) fl_X12_94 rfl (c := 14) rfl m ?_
      refine j_iload_n (dk dt_X12_shift 99 rfl) rfl ?_
      obtain ⟨p_175, q_175, H⟩ := H
      refine jm_iald (dk dt_X12_shift 100 rfl) rfl rfl m p_175 q_175 ?_
      refine j_iload_n (dk dt_X12_shift 101 rfl) rfl ?_
      refine jz_callV4 (dk dt_X12_shift 102 rfl) vl_X12_840 rfl (T_X12_further r_x4 (by decide) (m.2.1.1 _ _) r_x3 m H) m.1.1 rfl (by decide) (Nat.zero_le _) (Nat.zero_le _) (Nat.le_of_ble_eq_true rfl) (fun v_177 h_177 P_177 => ?_)
      obtain ⟨x_177, rfl, r_177, rfl, H⟩ := P_177
      dsimp only [rs]
      exact j_el (T_X12_shift_180 r_x1 r_x6 r_x7 r_x8 r_s0 r_177 m   H) (And.intro rfl (And.intro rfl (And.intro rfl (And.intro rfl (And.intro rfl (And.intro rfl trivial))))))
    · refine j_aload_n (dk dt_X12_shift 89 rfl) rfl ?_
      refine jm_getA (dk dt_X12_shift 90 rfl) fl_X12_94 rfl (c := 14) rfl m ?_
      refine j_iload_n (dk dt_X12_shift 91 rfl) rfl ?_
      obtain ⟨p_162, q_162, H⟩ := H
      refine jm_iald (dk dt_X12_shift 92 rfl) rfl rfl m p_162 q_162 ?_
      refine j_goto 180 (dk dt_X12_shift 93 rfl) (by decide) ?_
      exact j_el (T_X12_shift_180 r_x1 r_x6 r_x7 r_x8 r_s0 (m.2.1.1 _ _) m   H) (And.intro rfl (And.intro rfl (And.intro rfl (And.intro rfl (And.intro rfl (And.intro rfl trivial))))))
def F_X12_shift_97  (x1 : Int) (x2 : Int) (x3 : Int) (x4 : Int) (x5 : Int) (x6 : Int) (x7 : Int) (s0 : Int) (u : Mu) (P : Mu → Prop) : Prop :=
  (if x6 = 0 then F_X12_shift_139 x1 x3 x4 x5 x6 x7 s0 0 u P else (if bAnd x5 8 ≤ 0 then (0 ≤ x1 ∧ x1 < 60420 ∧ F_X12_further x4 0 (mI u 34 x1) x2 u (fun x_136 => F_X12_shift_139 x1 x3 x4 x5 x6 x7 s0 x_136 u P)) else (0 ≤ x1 ∧ x1 < 60420 ∧ F_X12_shift_139 x1 x3 x4 x5 x6 x7 s0 (mI u 34 x1) u P)))
theorem T_X12_shift_97  {x1 : Int} {x2 : Int} {x3 : Int} {x4 : Int} {x5 : Int} {x6 : Int} {x7 : Int} {s0 : Int} {u : Mu} {P : Mu → Prop} {h : Hp} {g : Nat → Nat} (r_x1 : R32 x1) (r_x2 : R32 x2) (r_x3 : R32 x3) (r_x4 : R32 x4) (r_x5 : R32 x5) (r_x6 : R32 x6) (r_x7 : R32 x7) (r_s0 : R32 s0) (m : Ms h g u)   (H : F_X12_shift_97 x1 x2 x3 x4 x5 x6 x7 s0 u P) : J mX12_shift 4 0 0 (nx (QMV g P)) 97 [some (vr (some (g 0))), some (ii (x1)), some (ii (x2)), some (ii (x3)), some (ii (x4)), some (ii (x5)), some (ii (x6)), some (ii (x7)), none, none, none, none] [ii (s0)] h := by
  unfold F_X12_shift_97 at H
  refine j_istore (dk dt_X12_shift 57 rfl) (by decide) ?_
  refine j_iload (dk dt_X12_shift 58 rfl) rfl ?_
  refine jz_if_ne 108 (dk dt_X12_shift 59 rfl) (by decide) r_x6 H (fun H => ?_) (fun H => ?_)
  · refine j_iconst (v := Int32.ofInt 0) (dk dt_X12_shift 60 rfl) (by decide) ?_
    refine j_goto 139 (dk dt_X12_shift 61 rfl) (by decide) ?_
    exact j_el (T_X12_shift_139 r_x1 r_x3 r_x4 r_x5 r_x6 r_x7 r_s0 (by decide) m   H) (And.intro rfl (And.intro rfl (And.intro rfl (And.intro rfl (And.intro rfl (And.intro rfl (And.intro rfl (And.intro rfl trivial))))))))
  · refine j_iload (dk dt_X12_shift 62 rfl) rfl ?_
    refine j_bipush (v := Int32.ofInt 8) (dk dt_X12_shift 63 rfl) (by decide) ?_
    refine jz_iand (dk dt_X12_shift 64 rfl) ?_
    refine jz_if_le 125 (dk dt_X12_shift 65 rfl) (by decide) (r32_t _) H (fun H => ?_) (fun H => ?_)
    · refine j_aload_n (dk dt_X12_shift 71 rfl) rfl ?_
      refine j_iload (dk dt_X12_shift 72 rfl) rfl ?_
      refine j_iconst (v := Int32.ofInt 0) (dk dt_X12_shift 73 rfl) (by decide) ?_
      refine j_aload_n (dk dt_X12_shift 74 rfl) rfl ?_
      refine jm_getA (dk dt_X12_shift 75 rfl) fl_X12_91 rfl (c := 14) rfl m ?_
      refine j_iload_n (dk dt_X12_shift 76 rfl) rfl ?_
      obtain ⟨p_134, q_134, H⟩ := H
      refine jm_iald (dk dt_X12_shift 77 rfl) rfl rfl m p_134 q_134 ?_
      refine j_iload_n (dk dt_X12_shift 78 rfl) rfl ?_
      refine jz_callV4 (dk dt_X12_shift 79 rfl) vl_X12_840 rfl (T_X12_further r_x4 (by decide) (m.2.1.1 _ _) r_x2 m H) m.1.1 rfl (by decide) (Nat.zero_le _) (Nat.zero_le _) (Nat.le_of_ble_eq_true rfl) (fun v_136 h_136 P_136 => ?_)
      obtain ⟨x_136, rfl, r_136, rfl, H⟩ := P_136
      dsimp only [rs]
      exact j_el (T_X12_shift_139 r_x1 r_x3 r_x4 r_x5 r_x6 r_x7 r_s0 r_136 m   H) (And.intro rfl (And.intro rfl (And.intro rfl (And.intro rfl (And.intro rfl (And.intro rfl (And.intro rfl (And.intro rfl trivial))))))))
    · refine j_aload_n (dk dt_X12_shift 66 rfl) rfl ?_
      refine jm_getA (dk dt_X12_shift 67 rfl) fl_X12_91 rfl (c := 14) rfl m ?_
      refine j_iload_n (dk dt_X12_shift 68 rfl) rfl ?_
      obtain ⟨p_121, q_121, H⟩ := H
      refine jm_iald (dk dt_X12_shift 69 rfl) rfl rfl m p_121 q_121 ?_
      refine j_goto 139 (dk dt_X12_shift 70 rfl) (by decide) ?_
      exact j_el (T_X12_shift_139 r_x1 r_x3 r_x4 r_x5 r_x6 r_x7 r_s0 (m.2.1.1 _ _) m   H) (And.intro rfl (And.intro rfl (And.intro rfl (And.intro rfl (And.intro rfl (And.intro rfl (And.intro rfl (And.intro rfl trivial))))))))
def F_X12_shift_65  (x1 : Int) (x2 : Int) (x3 : Int) (x4 : Int) (x5 : Int) (x6 : Int) (s0 : Int) (u : Mu) (P : Mu → Prop) : Prop :=
  (if bAnd x5 1 ≤ 0 then (0 ≤ x1 ∧ x1 < 60420 ∧ F_X12_further x4 1 (mI u 33 x1) x3 u (fun x_94 => F_X12_shift_97 x1 x2 x3 x4 x5 x6 s0 x_94 u P)) else (0 ≤ x1 ∧ x1 < 60420 ∧ F_X12_shift_97 x1 x2 x3 x4 x5 x6 s0 (mI u 33 x1) u P))
theorem T_X12_shift_65  {x1 : Int} {x2 : Int} {x3 : Int} {x4 : Int} {x5 : Int} {x6 : Int} {s0 : Int} {u : Mu} {P : Mu → Prop} {h : Hp} {g : Nat → Nat} (r_x1 : R32 x1) (r_x2 : R32 x2) (r_x3 : R32 x3) (r_x4 : R32 x4) (r_x5 : R32 x5) (r_x6 : R32 x6) (r_s0 : R32 s0) (m : Ms h g u)   (H : F_X12_shift_65 x1 x2 x3 x4 x5 x6 s0 u P) : J mX12_shift 4 0 0 (nx (QMV g P)) 65 [some (vr (some (g 0))), some (ii (x1)), some (ii (x2)), some (ii (x3)), some (ii (x4)), some (ii (x5)), some (ii (x6)), none, none, none, none, none] [ii (s0)] h := by
  unfold F_X12_shift_65 at H
  refine j_istore (dk dt_X12_shift 38 rfl) (by decide) ?_
  refine j_iload (dk dt_X12_shift 39 rfl) rfl ?_
  refine j_iconst (v := Int32.ofInt 1) (dk dt_X12_shift 40 rfl) (by decide) ?_
  refine jz_iand (dk dt_X12_shift 41 rfl) ?_
  refine jz_if_le 83 (dk dt_X12_shift 42 rfl) (by decide) (r32_t _) H (fun H => ?_) (fun H => ?_)
  · refine j_aload_n (dk dt_X12_shift 48 rfl) rfl ?_
    refine j_iload (dk dt_X12_shift 49 rfl) rfl ?_
    refine j_iconst (v := Int32.ofInt 1) (dk dt_X12_shift 50 rfl) (by decide) ?_
    refine j_aload_n (dk dt_X12_shift 51 rfl) rfl ?_
    refine jm_getA (dk dt_X12_shift 52 rfl) fl_X12_88 rfl (c := 14) rfl m ?_
    refine j_iload_n (dk dt_X12_shift 53 rfl) rfl ?_
    obtain ⟨p_92, q_92, H⟩ := H
    refine jm_iald (dk dt_X12_shift 54 rfl) rfl rfl m p_92 q_92 ?_
    refine j_iload_n (dk dt_X12_shift 55 rfl) rfl ?_
    refine jz_callV4 (dk dt_X12_shift 56 rfl) vl_X12_840 rfl (T_X12_further r_x4 (by decide) (m.2.1.1 _ _) r_x3 m H) m.1.1 rfl (by decide) (Nat.zero_le _) (Nat.zero_le _) (Nat.le_of_ble_eq_true rfl) (fun v_94 h_94 P_94 => ?_)
    obtain ⟨x_94, rfl, r_94, rfl, H⟩ := P_94
    dsimp only [rs]
    exact j_el (T_X12_shift_97 r_x1 r_x2 r_x3 r_x4 r_x5 r_x6 r_s0 r_94 m   H) (And.intro rfl (And.intro rfl (And.intro rfl (And.intro rfl (And.intro rfl (And.intro rfl (And.intro rfl (And.intro rfl trivial))))))))
  · refine j_aload_n (dk dt_X12_shift 43 rfl) rfl ?_
    refine jm_getA (dk dt_X12_shift 44 rfl) fl_X12_88 rfl (c := 14) rfl m ?_
    refine j_iload_n (dk dt_X12_shift 45 rfl) rfl ?_
    obtain ⟨p_79, q_79, H⟩ := H
    refine jm_iald (dk dt_X12_shift 46 rfl) rfl rfl m p_79 q_79 ?_
    refine j_goto 97 (dk dt_X12_shift 47 rfl) (by decide) ?_
    exact j_el (T_X12_shift_97 r_x1 r_x2 r_x3 r_x4 r_x5 r_x6 r_s0 (m.2.1.1 _ _) m   H) (And.intro rfl (And.intro rfl (And.intro rfl (And.intro rfl (And.intro rfl (And.intro rfl (And.intro rfl (And.intro rfl trivial))))))))
def F_X12_shift_33  (x1 : Int) (x2 : Int) (x3 : Int) (x4 : Int) (x5 : Int) (s0 : Int) (u : Mu) (P : Mu → Prop) : Prop :=
  (if bAnd x5 2 ≤ 0 then (0 ≤ x1 ∧ x1 < 60420 ∧ F_X12_further x4 0 (mI u 32 x1) x2 u (fun x_62 => F_X12_shift_65 x1 x2 x3 x4 x5 s0 x_62 u P)) else (0 ≤ x1 ∧ x1 < 60420 ∧ F_X12_shift_65 x1 x2 x3 x4 x5 s0 (mI u 32 x1) u P))
theorem T_X12_shift_33  {x1 : Int} {x2 : Int} {x3 : Int} {x4 : Int} {x5 : Int} {s0 : Int} {u : Mu} {P : Mu → Prop} {h : Hp} {g : Nat → Nat} (r_x1 : R32 x1) (r_x2 : R32 x2) (r_x3 : R32 x3) (r_x4 : R32 x4) (r_x5 : R32 x5) (r_s0 : R32 s0) (m : Ms h g u)   (H : F_X12_shift_33 x1 x2 x3 x4 x5 s0 u P) : J mX12_shift 4 0 0 (nx (QMV g P)) 33 [some (vr (some (g 0))), some (ii (x1)), some (ii (x2)), some (ii (x3)), some (ii (x4)), some (ii (x5)), none, none, none, none, none, none] [ii (s0)] h := by
  unfold F_X12_shift_33 at H
  refine j_istore (dk dt_X12_shift 19 rfl) (by decide) ?_
  refine j_iload (dk dt_X12_shift 20 rfl) rfl ?_
  refine j_iconst (v := Int32.ofInt 2) (dk dt_X12_shift 21 rfl) (by decide) ?_
  refine jz_iand (dk dt_X12_shift 22 rfl) ?_
  refine jz_if_le 51 (dk dt_X12_shift 23 rfl) (by decide) (r32_t _) H (fun H => ?_) (fun H => ?_)
  · refine j_aload_n (dk dt_X12_shift 29 rfl) rfl ?_
    refine j_iload (dk dt_X12_shift 30 rfl) rfl ?_
    refine j_iconst (v := Int32.ofInt 0) (dk dt_X12_shift 31 rfl) (by decide) ?_
    refine j_aload_n (dk dt_X12_shift 32 rfl) rfl ?_
    refine jm_getA (dk dt_X12_shift 33 rfl) fl_X12_85 rfl (c := 14) rfl m ?_
    refine j_iload_n (dk dt_X12_shift 34 rfl) rfl ?_
    obtain ⟨p_60, q_60, H⟩ := H
    refine jm_iald (dk dt_X12_shift 35 rfl) rfl rfl m p_60 q_60 ?_
    refine j_iload_n (dk dt_X12_shift 36 rfl) rfl ?_
    refine jz_callV4 (dk dt_X12_shift 37 rfl) vl_X12_840 rfl (T_X12_further r_x4 (by decide) (m.2.1.1 _ _) r_x2 m H) m.1.1 rfl (by decide) (Nat.zero_le _) (Nat.zero_le _) (Nat.le_of_ble_eq_true rfl) (fun v_62 h_62 P_62 => ?_)
    obtain ⟨x_62, rfl, r_62, rfl, H⟩ := P_62
    dsimp only [rs]
    exact j_el (T_X12_shift_65 r_x1 r_x2 r_x3 r_x4 r_x5 r_s0 r_62 m   H) (And.intro rfl (And.intro rfl (And.intro rfl (And.intro rfl (And.intro rfl (And.intro rfl (And.intro rfl trivial)))))))
  · refine j_aload_n (dk dt_X12_shift 24 rfl) rfl ?_
    refine jm_getA (dk dt_X12_shift 25 rfl) fl_X12_85 rfl (c := 14) rfl m ?_
    refine j_iload_n (dk dt_X12_shift 26 rfl) rfl ?_
    obtain ⟨p_47, q_47, H⟩ := H
    refine jm_iald (dk dt_X12_shift 27 rfl) rfl rfl m p_47 q_47 ?_
    refine j_goto 65 (dk dt_X12_shift 28 rfl) (by decide) ?_
    exact j_el (T_X12_shift_65 r_x1 r_x2 r_x3 r_x4 r_x5 r_s0 (m.2.1.1 _ _) m   H) (And.intro rfl (And.intro rfl (And.intro rfl (And.intro rfl (And.intro rfl (And.intro rfl (And.intro rfl trivial)))))))
def F_X12_shift  (x1 : Int) (x2 : Int) (x3 : Int) (u : Mu) (P : Mu → Prop) : Prop :=
  F_X12_sheetOf x1 40 u (fun x_4 => (0 ≤ x1 ∧ x1 < 60420 ∧ (0 ≤ x1 ∧ x1 < 60420 ∧ (if mI u 26 x1 = 6 then F_X12_shift_33 x1 x2 x3 x_4 (mI u 36 x1) 1 u P else F_X12_shift_33 x1 x2 x3 x_4 (mI u 36 x1) 0 u P))))
theorem T_X12_shift  {x1 : Int} {x2 : Int} {x3 : Int} {u : Mu} {P : Mu → Prop} {h : Hp} {g : Nat → Nat} (r_x1 : R32 x1) (r_x2 : R32 x2) (r_x3 : R32 x3) (m : Ms h g u)  (H : F_X12_shift x1 x2 x3 u P) : Con mX12_shift 4 0 0 [vr (some (g 0)), ii (x1), ii (x2), ii (x3)] h (QMV g P) := by
  refine con_of rfl (Nat.le_of_ble_eq_true rfl) (by decide) ?_
  show J mX12_shift 4 0 0 _ 0 [some (vr (some (g 0))), some (ii (x1)), some (ii (x2)), some (ii (x3)), none, none, none, none, none, none, none, none] [] h
  unfold F_X12_shift at H
  refine j_aload_n (dk dt_X12_shift 0 rfl) rfl ?_
  refine j_iload_n (dk dt_X12_shift 1 rfl) rfl ?_
  refine j_bipush (v := Int32.ofInt 40) (dk dt_X12_shift 2 rfl) (by decide) ?_
  refine jz_callV2 (dk dt_X12_shift 3 rfl) vl_X12_558 rfl (T_X12_sheetOf r_x1 (by decide) m H) m.1.1 rfl (by decide) (Nat.zero_le _) (Nat.zero_le _) (Nat.le_of_ble_eq_true rfl) (fun v_4 h_4 P_4 => ?_)
  obtain ⟨x_4, rfl, r_4, rfl, H⟩ := P_4
  dsimp only [rs]
  refine j_istore (dk dt_X12_shift 4 rfl) (by decide) ?_
  refine j_aload_n (dk dt_X12_shift 5 rfl) rfl ?_
  refine jm_getA (dk dt_X12_shift 6 rfl) fl_X12_97 rfl (c := 14) rfl m ?_
  refine j_iload_n (dk dt_X12_shift 7 rfl) rfl ?_
  obtain ⟨p_14, q_14, H⟩ := H
  refine jm_iald (dk dt_X12_shift 8 rfl) rfl rfl m p_14 q_14 ?_
  refine j_istore (dk dt_X12_shift 9 rfl) (by decide) ?_
  refine j_aload_n (dk dt_X12_shift 10 rfl) rfl ?_
  refine jm_getA (dk dt_X12_shift 11 rfl) fl_X12_67 rfl (c := 14) rfl m ?_
  refine j_iload_n (dk dt_X12_shift 12 rfl) rfl ?_
  obtain ⟨p_22, q_22, H⟩ := H
  refine jm_iald (dk dt_X12_shift 13 rfl) rfl rfl m p_22 q_22 ?_
  refine j_bipush (v := Int32.ofInt 6) (dk dt_X12_shift 14 rfl) (by decide) ?_
  refine jz_icmp_ne 32 (dk dt_X12_shift 15 rfl) (by decide) (m.2.1.1 _ _) (by decide) H (fun H => ?_) (fun H => ?_)
  · refine j_iconst (v := Int32.ofInt 1) (dk dt_X12_shift 16 rfl) (by decide) ?_
    refine j_goto 33 (dk dt_X12_shift 17 rfl) (by decide) ?_
    exact j_el (T_X12_shift_33 r_x1 r_x2 r_x3 r_4 (m.2.1.1 _ _) (by decide) m   H) (And.intro rfl (And.intro rfl (And.intro rfl (And.intro rfl (And.intro rfl (And.intro rfl trivial))))))
  · refine j_iconst (v := Int32.ofInt 0) (dk dt_X12_shift 18 rfl) (by decide) ?_
    exact j_el (T_X12_shift_33 r_x1 r_x2 r_x3 r_4 (m.2.1.1 _ _) (by decide) m   H) (And.intro rfl (And.intro rfl (And.intro rfl (And.intro rfl (And.intro rfl (And.intro rfl trivial))))))
