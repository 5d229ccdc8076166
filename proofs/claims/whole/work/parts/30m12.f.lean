def F_X12_formulaValue_26  (x3 : Int) (u : Mu) (P : Mu → Prop) : Prop :=
  F_X12_store 0 x3 u (fun u_29 => P u_29)
theorem T_X12_formulaValue_26  {x3 : Int} {u : Mu} {P : Mu → Prop} {h : Hp} {g : Nat → Nat} (r_x3 : R32 x3) (m : Ms h g u)   (H : F_X12_formulaValue_26 x3 u P) : J mX12_formulaValue 412 0 0 (nx (QMV g P)) 26 [some (vr (some (g 0))), none, none, some (ii (x3))] [] h := by
  unfold F_X12_formulaValue_26 at H
  refine j_aload_n (dk dt_X12_formulaValue 16 rfl) rfl ?_
  refine j_iconst (v := Int32.ofInt 0) (dk dt_X12_formulaValue 17 rfl) (by decide) ?_
  refine j_iload_n (dk dt_X12_formulaValue 18 rfl) rfl ?_
  refine jz_callV2 (dk dt_X12_formulaValue 19 rfl) vl_X12_705 rfl (T_X12_store (by decide) r_x3 m H) m.1.1 rfl (by decide) (Nat.zero_le _) (Nat.zero_le _) (Nat.le_of_ble_eq_true rfl) (fun v_29 h_29 P_29 => ?_)
  obtain ⟨u_29, rfl, m_29, H⟩ := P_29
  dsimp only [rs]
  exact j_return (dk dt_X12_formulaValue 20 rfl) rfl ⟨_, rfl, m_29, H⟩
def F_X12_formulaValue  (x1 : Int) (x2 : Int) (x3 : Int) (u : Mu) (P : Mu → Prop) : Prop :=
  F_X12_wholeOf x2 u (fun x_3 => (∃ n_8, n_8 ≤ 400 ∧ F_X12_work n_8 x_3 x1 0 u (fun u_8 => (if mI u_8 66 0 = 0 then F_X12_number 0 0 u_8 (fun u_23 => F_X12_formulaValue_26 x3 u_23 P) else F_X12_formulaValue_26 x3 u_8 P))))
theorem T_X12_formulaValue  {x1 : Int} {x2 : Int} {x3 : Int} {u : Mu} {P : Mu → Prop} {h : Hp} {g : Nat → Nat} (r_x1 : R32 x1) (r_x2 : R32 x2) (r_x3 : R32 x3) (m : Ms h g u)  (H : F_X12_formulaValue x1 x2 x3 u P) : Con mX12_formulaValue 412 0 0 [vr (some (g 0)), ii (x1), ii (x2), ii (x3)] h (QMV g P) := by
  refine con_of rfl (Nat.le_of_ble_eq_true rfl) (by decide) ?_
  show J mX12_formulaValue 412 0 0 _ 0 [some (vr (some (g 0))), some (ii (x1)), some (ii (x2)), some (ii (x3))] [] h
  unfold F_X12_formulaValue at H
  refine j_aload_n (dk dt_X12_formulaValue 0 rfl) rfl ?_
  refine j_aload_n (dk dt_X12_formulaValue 1 rfl) rfl ?_
  refine j_iload_n (dk dt_X12_formulaValue 2 rfl) rfl ?_
  refine jz_callV1 (dk dt_X12_formulaValue 3 rfl) vl_X12_708 rfl (T_X12_wholeOf r_x2 m H) m.1.1 rfl (by decide) (Nat.zero_le _) (Nat.zero_le _) (Nat.le_of_ble_eq_true rfl) (fun v_3 h_3 P_3 => ?_)
  obtain ⟨x_3, rfl, r_3, rfl, H⟩ := P_3
  dsimp only [rs]
  refine j_iload_n (dk dt_X12_formulaValue 4 rfl) rfl ?_
  refine j_iconst (v := Int32.ofInt 0) (dk dt_X12_formulaValue 5 rfl) (by decide) ?_
  obtain ⟨n_8, hn_8, H⟩ := H
  refine jz_callV3 (dk dt_X12_formulaValue 6 rfl) vl_X12_588 rfl (T_X12_work (n := n_8) r_3 r_x1 (by decide) m H) m.1.1 rfl (by omega) (Nat.zero_le _) (Nat.zero_le _) (Nat.le_of_ble_eq_true rfl) (fun v_8 h_8 P_8 => ?_)
  obtain ⟨u_8, rfl, m_8, H⟩ := P_8
  dsimp only [rs]
  refine j_aload_n (dk dt_X12_formulaValue 7 rfl) rfl ?_
  refine jm_getA (dk dt_X12_formulaValue 8 rfl) fl_X12_126 rfl (c := 14) rfl m_8 ?_
  refine j_iconst (v := Int32.ofInt 0) (dk dt_X12_formulaValue 9 rfl) (by decide) ?_
  refine jm_iald (dk dt_X12_formulaValue 10 rfl) rfl rfl m_8 (by decide) (by decide) ?_
  refine jz_if_ne 26 (dk dt_X12_formulaValue 11 rfl) (by decide) (m_8.2.1.1 _ _) H (fun H => ?_) (fun H => ?_)
  · refine j_aload_n (dk dt_X12_formulaValue 12 rfl) rfl ?_
    refine j_iconst (v := Int32.ofInt 0) (dk dt_X12_formulaValue 13 rfl) (by decide) ?_
    refine j_lconst (v := Int64.ofInt 0) (dk dt_X12_formulaValue 14 rfl) (by decide) ?_
    refine jz_callV2 (dk dt_X12_formulaValue 15 rfl) vl_X12_537 rfl (T_X12_number (by decide) (by decide) m_8 H) m_8.1.1 rfl (by decide) (Nat.zero_le _) (Nat.zero_le _) (Nat.le_of_ble_eq_true rfl) (fun v_23 h_23 P_23 => ?_)
    obtain ⟨u_23, rfl, m_23, H⟩ := P_23
    dsimp only [rs]
    exact j_el (T_X12_formulaValue_26 r_x3 m_23   H) (And.intro rfl (And.intro rfl trivial))
  · exact j_el (T_X12_formulaValue_26 r_x3 m_8   H) (And.intro rfl (And.intro rfl trivial))
def F_X12_isLike__65  (x1 : Int) (x2 : Int) (x3 : Int) (x5 : Int) (s0 : Int) (u : Mu) (P : (Int × Int) ⊕ ((Int)) → Prop) : Prop :=
  P (.inl (s0, w32 (x5 + 1)))
theorem T_X12_isLike__65  {x1 : Int} {x2 : Int} {x3 : Int} {x5 : Int} {s0 : Int} {u : Mu} {P : (Int × Int) ⊕ ((Int)) → Prop} {h : Hp} {g : Nat → Nat} {post : Option Sv ⊕ String → Hp → Prop} (r_x1 : R32 x1) (r_x2 : R32 x2) (r_x3 : R32 x3) (r_x5 : R32 x5) (r_s0 : R32 s0) (m : Ms h g u)  (hl : ∀ (x4 : Int) (x5 : Int), P (.inl (x4, x5)) → R32 x4 → R32 x5 → J mX12_isLike_ 2 0 0 post 25 [some (vr (some (g 0))), some (ii (x1)), some (ii (x2)), some (ii (x3)), some (ii (x4)), some (ii (x5))] [] h) (he0 : ∀ (x4 : Int), P (.inr x4) → R32 x4 → J mX12_isLike_ 2 0 0 post 73 [none, none, none, none, some (ii (x4)), none] [] h) (H : F_X12_isLike__65 x1 x2 x3 x5 s0 u P) : J mX12_isLike_ 2 0 0 (post) 65 [some (vr (some (g 0))), some (ii (x1)), some (ii (x2)), some (ii (x3)), none, some (ii (x5))] [ii (s0)] h := by
  unfold F_X12_isLike__65 at H
  refine j_istore (dk dt_X12_isLike_ 37 rfl) (by decide) ?_
  refine jz_iinc (dk dt_X12_isLike_ 38 rfl) rfl ?_
  refine j_goto 25 (dk dt_X12_isLike_ 39 rfl) (by decide) ?_
  exact j_el (hl _ _ H r_s0 (r32_w _)) (And.intro rfl (And.intro rfl (And.intro rfl (And.intro rfl (And.intro rfl (And.intro rfl trivial))))))
def L_X12_isLike__25  (x1 : Int) (x2 : Int) (x3 : Int) (x4 : Int) (x5 : Int) (u : Mu) (P : (Int × Int) ⊕ ((Int)) → Prop) : Prop :=
  F_X12_linesOf x1 x3 u (fun x_30 => (if x_30 ≤ x5 then P (.inr x4) else (if x4 = 0 then P (.inr x4) else F_X12_lineAt x1 x3 x5 u (fun x_46 => F_X12_lineAt x2 x3 x5 u (fun x_54 => (if x_46 = x_54 then F_X12_isLike__65 x1 x2 x3 x5 1 u P else F_X12_isLike__65 x1 x2 x3 x5 0 u P))))))
theorem U_X12_isLike__25  {x1 : Int} {x2 : Int} {x3 : Int} {x4 : Int} {x5 : Int} {u : Mu} {P : (Int × Int) ⊕ ((Int)) → Prop} {h : Hp} {g : Nat → Nat} {post : Option Sv ⊕ String → Hp → Prop} (r_x1 : R32 x1) (r_x2 : R32 x2) (r_x3 : R32 x3) (r_x4 : R32 x4) (r_x5 : R32 x5) (m : Ms h g u)  (hl : ∀ (x4 : Int) (x5 : Int), P (.inl (x4, x5)) → R32 x4 → R32 x5 → J mX12_isLike_ 2 0 0 post 25 [some (vr (some (g 0))), some (ii (x1)), some (ii (x2)), some (ii (x3)), some (ii (x4)), some (ii (x5))] [] h) (he0 : ∀ (x4 : Int), P (.inr x4) → R32 x4 → J mX12_isLike_ 2 0 0 post 73 [none, none, none, none, some (ii (x4)), none] [] h) (H : L_X12_isLike__25 x1 x2 x3 x4 x5 u P) : J mX12_isLike_ 2 0 0 post 25 [some (vr (some (g 0))), some (ii (x1)), some (ii (x2)), some (ii (x3)), some (ii (x4)), some (ii (x5))] [] h := by
  unfold L_X12_isLike__25 at H
  refine j_iload (dk dt_X12_isLike_ 15 rfl) rfl ?_
  refine j_aload_n (dk dt_X12_isLike_ 16 rfl) rfl ?_
  refine j_iload_n (dk dt_X12_isLike_ 17 rfl) rfl ?_
  refine j_iload_n (dk dt_X12_isLike_ 18 rfl) rfl ?_
  refine jz_callV2 (dk dt_X12_isLike_ 19 rfl) vl_X12_209 rfl (T_X12_linesOf r_x1 r_x3 m H) m.1.1 rfl (by decide) (Nat.zero_le _) (Nat.zero_le _) (Nat.le_of_ble_eq_true rfl) (fun v_30 h_30 P_30 => ?_)
  obtain ⟨x_30, rfl, r_30, rfl, H⟩ := P_30
  dsimp only [rs]
  refine jz_icmp_ge 73 (dk dt_X12_isLike_ 20 rfl) (by decide) r_x5 r_30 H (fun H => ?_) (fun H => ?_)
  · exact j_el (he0 _ H r_x4) (And.intro rfl trivial)
  · refine j_iload (dk dt_X12_isLike_ 21 rfl) rfl ?_
    refine jz_if_eq 73 (dk dt_X12_isLike_ 22 rfl) (by decide) r_x4 H (fun H => ?_) (fun H => ?_)
    · exact j_el (he0 _ H r_x4) (And.intro rfl trivial)
    · refine j_aload_n (dk dt_X12_isLike_ 23 rfl) rfl ?_
      refine j_iload_n (dk dt_X12_isLike_ 24 rfl) rfl ?_
      refine j_iload_n (dk dt_X12_isLike_ 25 rfl) rfl ?_
      refine j_iload (dk dt_X12_isLike_ 26 rfl) rfl ?_
      refine jz_callV3 (dk dt_X12_isLike_ 27 rfl) vl_X12_213 rfl (T_X12_lineAt r_x1 r_x3 r_x5 m H) m.1.1 rfl (by decide) (Nat.zero_le _) (Nat.zero_le _) (Nat.le_of_ble_eq_true rfl) (fun v_46 h_46 P_46 => ?_)
      obtain ⟨x_46, rfl, r_46, rfl, H⟩ := P_46
      dsimp only [rs]
      refine j_aload_n (dk dt_X12_isLike_ 28 rfl) rfl ?_
      refine j_iload_n (dk dt_X12_isLike_ 29 rfl) rfl ?_
      refine j_iload_n (dk dt_X12_isLike_ 30 rfl) rfl ?_
      refine j_iload (dk dt_X12_isLike_ 31 rfl) rfl ?_
      refine jz_callV3 (dk dt_X12_isLike_ 32 rfl) vl_X12_213 rfl (T_X12_lineAt r_x2 r_x3 r_x5 m H) m.1.1 rfl (by decide) (Nat.zero_le _) (Nat.zero_le _) (Nat.le_of_ble_eq_true rfl) (fun v_54 h_54 P_54 => ?_)
      obtain ⟨x_54, rfl, r_54, rfl, H⟩ := P_54
      dsimp only [rs]
      refine jz_icmp_ne 64 (dk dt_X12_isLike_ 33 rfl) (by decide) r_46 r_54 H (fun H => ?_) (fun H => ?_)
      · refine j_iconst (v := Int32.ofInt 1) (dk dt_X12_isLike_ 34 rfl) (by decide) ?_
        refine j_goto 65 (dk dt_X12_isLike_ 35 rfl) (by decide) ?_
        exact j_el (T_X12_isLike__65 r_x1 r_x2 r_x3 r_x5 (by decide) m  hl he0 H) (And.intro rfl (And.intro rfl (And.intro rfl (And.intro rfl (And.intro rfl trivial)))))
      · refine j_iconst (v := Int32.ofInt 0) (dk dt_X12_isLike_ 36 rfl) (by decide) ?_
        exact j_el (T_X12_isLike__65 r_x1 r_x2 r_x3 r_x5 (by decide) m  hl he0 H) (And.intro rfl (And.intro rfl (And.intro rfl (And.intro rfl (And.intro rfl trivial)))))
def F_X12_isLike__73  (x4 : Int) (u : Mu) (P : Int → Prop) : Prop :=
  (Z1 x4 ∧ P x4)
theorem T_X12_isLike__73  {x4 : Int} {u : Mu} {P : Int → Prop} {h : Hp} {g : Nat → Nat} (r_x4 : R32 x4) (m : Ms h g u)   (H : F_X12_isLike__73 x4 u P) : J mX12_isLike_ 2 0 0 (nx (QPI h P)) 73 [none, none, none, none, some (ii (x4)), none] [] h := by
  unfold F_X12_isLike__73 at H
  refine j_iload (dk dt_X12_isLike_ 40 rfl) rfl ?_
  obtain ⟨hz_, H⟩ := H
  exact j_ireturn (dk dt_X12_isLike_ 41 rfl) rfl (nar_z hz_) ⟨_, rfl, r_x4, rfl, H⟩
def F_X12_isLike__25  (x1 : Int) (x2 : Int) (x3 : Int) (x4 : Int) (x5 : Int) (u : Mu) (P : Int → Prop) : Prop :=
  lp (S := Int × Int) (E := (Int)) (fun q P_ => L_X12_isLike__25 x1 x2 x3 q.1 q.2 u P_) (x4, x5) (fun (x4 : Int) => F_X12_isLike__73 x4 u P)
theorem T_X12_isLike__25  {x1 : Int} {x2 : Int} {x3 : Int} {x4 : Int} {x5 : Int} {u : Mu} {P : Int → Prop} {h : Hp} {g : Nat → Nat} (r_x1 : R32 x1) (r_x2 : R32 x2) (r_x3 : R32 x3) (r_x4 : R32 x4) (r_x5 : R32 x5) (m : Ms h g u)   (H : F_X12_isLike__25 x1 x2 x3 x4 x5 u P) : J mX12_isLike_ 2 0 0 (nx (QPI h P)) 25 [some (vr (some (g 0))), some (ii (x1)), some (ii (x2)), some (ii (x3)), some (ii (x4)), some (ii (x5))] [] h := by
  unfold F_X12_isLike__25 at H
  refine lp_J (G := fun q => R32 (q.1) → R32 (q.2) → J mX12_isLike_ 2 0 0 (nx (QPI h P)) 25 [some (vr (some (g 0))), some (ii (x1)), some (ii (x2)), some (ii (x3)), some (ii ((q.1))), some (ii ((q.2)))] [] h) (fun q P_ hl_ he_ Hb => ?_) (x4, x5) H r_x4 r_x5
  obtain ⟨x4, x5⟩ := q
  intro r_x4 r_x5
  refine U_X12_isLike__25 (P := P_) r_x1 r_x2 r_x3 r_x4 r_x5 m  (fun x4 x5 Hp r_x4 r_x5 => hl_ (x4, x5) Hp r_x4 r_x5) ?_ Hb
  · intro x4 Hp r_x4
    have H := he_ _ Hp
    exact j_el (T_X12_isLike__73 r_x4 m   H) (And.intro rfl trivial)
def F_X12_isLike__20  (x1 : Int) (x2 : Int) (x3 : Int) (s0 : Int) (u : Mu) (P : Int → Prop) : Prop :=
  F_X12_isLike__25 x1 x2 x3 s0 0 u P
theorem T_X12_isLike__20  {x1 : Int} {x2 : Int} {x3 : Int} {s0 : Int} {u : Mu} {P : Int → Prop} {h : Hp} {g : Nat → Nat} (r_x1 : R32 x1) (r_x2 : R32 x2) (r_x3 : R32 x3) (r_s0 : R32 s0) (m : Ms h g u)   (H : F_X12_isLike__20 x1 x2 x3 s0 u P) : J mX12_isLike_ 2 0 0 (nx (QPI h P)) 20 [some (vr (some (g 0))), some (ii (x1)), some (ii (x2)), some (ii (x3)), none, none] [ii (s0)] h := by
  unfold F_X12_isLike__20 at H
  refine j_istore (dk dt_X12_isLike_ 12 rfl) (by decide) ?_
  refine j_iconst (v := Int32.ofInt 0) (dk dt_X12_isLike_ 13 rfl) (by decide) ?_
  refine j_istore (dk dt_X12_isLike_ 14 rfl) (by decide) ?_
  exact j_el (T_X12_isLike__25 r_x1 r_x2 r_x3 r_s0 (by decide) m   H) (And.intro rfl (And.intro rfl (And.intro rfl (And.intro rfl (And.intro rfl (And.intro rfl trivial))))))
def F_X12_isLike_  (x1 : Int) (x2 : Int) (x3 : Int) (u : Mu) (P : Int → Prop) : Prop :=
  F_X12_linesOf x1 x3 u (fun x_3 => F_X12_linesOf x2 x3 u (fun x_9 => (if x_3 = x_9 then F_X12_isLike__20 x1 x2 x3 1 u P else F_X12_isLike__20 x1 x2 x3 0 u P)))
theorem T_X12_isLike_  {x1 : Int} {x2 : Int} {x3 : Int} {u : Mu} {P : Int → Prop} {h : Hp} {g : Nat → Nat} (r_x1 : R32 x1) (r_x2 : R32 x2) (r_x3 : R32 x3) (m : Ms h g u)  (H : F_X12_isLike_ x1 x2 x3 u P) : Con mX12_isLike_ 2 0 0 [vr (some (g 0)), ii (x1), ii (x2), ii (x3)] h (QPI h P) := by
  refine con_of rfl (Nat.le_of_ble_eq_true rfl) (by decide) ?_
  show J mX12_isLike_ 2 0 0 _ 0 [some (vr (some (g 0))), some (ii (x1)), some (ii (x2)), some (ii (x3)), none, none] [] h
  unfold F_X12_isLike_ at H
  refine j_aload_n (dk dt_X12_isLike_ 0 rfl) rfl ?_
  refine j_iload_n (dk dt_X12_isLike_ 1 rfl) rfl ?_
  refine j_iload_n (dk dt_X12_isLike_ 2 rfl) rfl ?_
  refine jz_callV2 (dk dt_X12_isLike_ 3 rfl) vl_X12_209 rfl (T_X12_linesOf r_x1 r_x3 m H) m.1.1 rfl (by decide) (Nat.zero_le _) (Nat.zero_le _) (Nat.le_of_ble_eq_true rfl) (fun v_3 h_3 P_3 => ?_)
  obtain ⟨x_3, rfl, r_3, rfl, H⟩ := P_3
  dsimp only [rs]
  refine j_aload_n (dk dt_X12_isLike_ 4 rfl) rfl ?_
  refine j_iload_n (dk dt_X12_isLike_ 5 rfl) rfl ?_
  refine j_iload_n (dk dt_X12_isLike_ 6 rfl) rfl ?_
  refine jz_callV2 (dk dt_X12_isLike_ 7 rfl) vl_X12_209 rfl (T_X12_linesOf r_x2 r_x3 m H) m.1.1 rfl (by decide) (Nat.zero_le _) (Nat.zero_le _) (Nat.le_of_ble_eq_true rfl) (fun v_9 h_9 P_9 => ?_)
  obtain ⟨x_9, rfl, r_9, rfl, H⟩ := P_9
  dsimp only [rs]
  refine jz_icmp_ne 19 (dk dt_X12_isLike_ 8 rfl) (by decide) r_3 r_9 H (fun H => ?_) (fun H => ?_)
  · refine j_iconst (v := Int32.ofInt 1) (dk dt_X12_isLike_ 9 rfl) (by decide) ?_
    refine j_goto 20 (dk dt_X12_isLike_ 10 rfl) (by decide) ?_
    exact j_el (T_X12_isLike__20 r_x1 r_x2 r_x3 (by decide) m   H) (And.intro rfl (And.intro rfl (And.intro rfl (And.intro rfl trivial))))
  · refine j_iconst (v := Int32.ofInt 0) (dk dt_X12_isLike_ 11 rfl) (by decide) ?_
    exact j_el (T_X12_isLike__20 r_x1 r_x2 r_x3 (by decide) m   H) (And.intro rfl (And.intro rfl (And.intro rfl (And.intro rfl trivial))))
def F_X12_isLikeHead_27  (u : Mu) (P : Int → Prop) : Prop :=
  P 0
theorem T_X12_isLikeHead_27  {u : Mu} {P : Int → Prop} {h : Hp} {g : Nat → Nat}  (m : Ms h g u)   (H : F_X12_isLikeHead_27 u P) : J mX12_isLikeHead 4 0 0 (nx (QPI h P)) 27 [none, none, none, none] [] h := by
  unfold F_X12_isLikeHead_27 at H
  refine j_iconst (v := Int32.ofInt 0) (dk dt_X12_isLikeHead 15 rfl) (by decide) ?_
  exact j_ireturn (dk dt_X12_isLikeHead 16 rfl) rfl (nar_z (by decide)) ⟨_, rfl, (by decide), rfl, H⟩
def F_X12_isLikeHead_105  (x1 : Int) (x2 : Int) (u : Mu) (P : Int ⊕ ((Unit) ⊕ (Unit)) → Prop) : Prop :=
  P (.inl (w32 (x2 + 1)))
theorem T_X12_isLikeHead_105  {x1 : Int} {x2 : Int} {u : Mu} {P : Int ⊕ ((Unit) ⊕ (Unit)) → Prop} {h : Hp} {g : Nat → Nat} {post : Option Sv ⊕ String → Hp → Prop} (r_x1 : R32 x1) (r_x2 : R32 x2) (m : Ms h g u)  (hl : ∀ (x2 : Int), P (.inl x2) → R32 x2 → J mX12_isLikeHead 4 0 0 post 31 [some (vr (some (g 0))), some (ii (x1)), some (ii (x2)), none] [] h) (he0 : P (.inr (.inl ())) → J mX12_isLikeHead 4 0 0 post 111 [none, none, none, none] [] h) (he1 : P (.inr (.inr ())) → J mX12_isLikeHead 4 0 0 post 103 [none, none, none, none] [] h) (H : F_X12_isLikeHead_105 x1 x2 u P) : J mX12_isLikeHead 4 0 0 (post) 105 [some (vr (some (g 0))), some (ii (x1)), some (ii (x2)), none] [] h := by
  unfold F_X12_isLikeHead_105 at H
  refine jz_iinc (dk dt_X12_isLikeHead 63 rfl) rfl ?_
  refine j_goto 31 (dk dt_X12_isLikeHead 64 rfl) (by decide) ?_
  exact j_el (hl _ H (r32_w _)) (And.intro rfl (And.intro rfl (And.intro rfl trivial)))
def F_X12_isLikeHead_69  (x1 : Int) (x2 : Int) (s0 : Int) (u : Mu) (P : Int ⊕ ((Unit) ⊕ (Unit)) → Prop) : Prop :=
  (if s0 = 0 then F_X12_isLikeHead_105 x1 x2 u P else (0 ≤ w32 (12800 + x2) ∧ w32 (12800 + x2) < 39040 ∧ (0 ≤ w32 (w32 (320 * x1) + x2) ∧ w32 (w32 (320 * x1) + x2) < 39040 ∧ F_X12_alike (mI u 5 (w32 (12800 + x2))) (mI u 5 (w32 (w32 (320 * x1) + x2))) u (fun x_97 => (if x_97 = 0 then P (.inr (.inr ())) else F_X12_isLikeHead_105 x1 x2 u P)))))
theorem T_X12_isLikeHead_69  {x1 : Int} {x2 : Int} {s0 : Int} {u : Mu} {P : Int ⊕ ((Unit) ⊕ (Unit)) → Prop} {h : Hp} {g : Nat → Nat} {post : Option Sv ⊕ String → Hp → Prop} (r_x1 : R32 x1) (r_x2 : R32 x2) (r_s0 : R32 s0) (m : Ms h g u)  (hl : ∀ (x2 : Int), P (.inl x2) → R32 x2 → J mX12_isLikeHead 4 0 0 post 31 [some (vr (some (g 0))), some (ii (x1)), some (ii (x2)), none] [] h) (he0 : P (.inr (.inl ())) → J mX12_isLikeHead 4 0 0 post 111 [none, none, none, none] [] h) (he1 : P (.inr (.inr ())) → J mX12_isLikeHead 4 0 0 post 103 [none, none, none, none] [] h) (H : F_X12_isLikeHead_69 x1 x2 s0 u P) : J mX12_isLikeHead 4 0 0 (post) 69 [some (vr (some (g 0))), some (ii (x1)), some (ii (x2)), none] [ii (s0)] h := by
  unfold F_X12_isLikeHead_69 at H
  refine j_istore_n (dk dt_X12_isLikeHead 41 rfl) (by decide) ?_
  refine j_iload_n (dk dt_X12_isLikeHead 42 rfl) rfl ?_
  refine jz_if_eq 105 (dk dt_X12_isLikeHead 43 rfl) (by decide) r_s0 H (fun H => ?_) (fun H => ?_)
  · exact j_el (T_X12_isLikeHead_105 r_x1 r_x2 m  hl he0 he1 H) (And.intro rfl (And.intro rfl (And.intro rfl trivial)))
  · refine j_aload_n (dk dt_X12_isLikeHead 44 rfl) rfl ?_
    refine j_aload_n (dk dt_X12_isLikeHead 45 rfl) rfl ?_
    refine jm_getA (dk dt_X12_isLikeHead 46 rfl) fl_X12_23 rfl (c := 14) rfl m ?_
    refine j_sipush (v := Int32.ofInt 12800) (dk dt_X12_isLikeHead 47 rfl) (by decide) ?_
    refine j_iload_n (dk dt_X12_isLikeHead 48 rfl) rfl ?_
    refine jz_iadd (dk dt_X12_isLikeHead 49 rfl) ?_
    obtain ⟨p_84, q_84, H⟩ := H
    refine jm_iald (dk dt_X12_isLikeHead 50 rfl) rfl rfl m p_84 q_84 ?_
    refine j_aload_n (dk dt_X12_isLikeHead 51 rfl) rfl ?_
    refine jm_getA (dk dt_X12_isLikeHead 52 rfl) fl_X12_23 rfl (c := 14) rfl m ?_
    refine j_sipush (v := Int32.ofInt 320) (dk dt_X12_isLikeHead 53 rfl) (by decide) ?_
    refine j_iload_n (dk dt_X12_isLikeHead 54 rfl) rfl ?_
    refine jz_imul (dk dt_X12_isLikeHead 55 rfl) ?_
    refine j_iload_n (dk dt_X12_isLikeHead 56 rfl) rfl ?_
    refine jz_iadd (dk dt_X12_isLikeHead 57 rfl) ?_
    obtain ⟨p_96, q_96, H⟩ := H
    refine jm_iald (dk dt_X12_isLikeHead 58 rfl) rfl rfl m p_96 q_96 ?_
    refine jz_callV2 (dk dt_X12_isLikeHead 59 rfl) vl_X12_865 rfl (T_X12_alike (m.2.1.1 _ _) (m.2.1.1 _ _) m H) m.1.1 rfl (by decide) (Nat.zero_le _) (Nat.zero_le _) (Nat.le_of_ble_eq_true rfl) (fun v_97 h_97 P_97 => ?_)
    obtain ⟨x_97, rfl, r_97, rfl, H⟩ := P_97
    dsimp only [rs]
    refine jz_if_ne 105 (dk dt_X12_isLikeHead 60 rfl) (by decide) r_97 H (fun H => ?_) (fun H => ?_)
    · exact j_el (he1  H ) trivial
    · exact j_el (T_X12_isLikeHead_105 r_x1 r_x2 m  hl he0 he1 H) (And.intro rfl (And.intro rfl (And.intro rfl trivial)))
def F_X12_isLikeHead_68  (x1 : Int) (x2 : Int) (u : Mu) (P : Int ⊕ ((Unit) ⊕ (Unit)) → Prop) : Prop :=
  F_X12_isLikeHead_69 x1 x2 0 u P
theorem T_X12_isLikeHead_68  {x1 : Int} {x2 : Int} {u : Mu} {P : Int ⊕ ((Unit) ⊕ (Unit)) → Prop} {h : Hp} {g : Nat → Nat} {post : Option Sv ⊕ String → Hp → Prop} (r_x1 : R32 x1) (r_x2 : R32 x2) (m : Ms h g u)  (hl : ∀ (x2 : Int), P (.inl x2) → R32 x2 → J mX12_isLikeHead 4 0 0 post 31 [some (vr (some (g 0))), some (ii (x1)), some (ii (x2)), none] [] h) (he0 : P (.inr (.inl ())) → J mX12_isLikeHead 4 0 0 post 111 [none, none, none, none] [] h) (he1 : P (.inr (.inr ())) → J mX12_isLikeHead 4 0 0 post 103 [none, none, none, none] [] h) (H : F_X12_isLikeHead_68 x1 x2 u P) : J mX12_isLikeHead 4 0 0 (post) 68 [some (vr (some (g 0))), some (ii (x1)), some (ii (x2)), none] [] h := by
  unfold F_X12_isLikeHead_68 at H
  refine j_iconst (v := Int32.ofInt 0) (dk dt_X12_isLikeHead 40 rfl) (by decide) ?_
  exact j_el (T_X12_isLikeHead_69 r_x1 r_x2 (by decide) m  hl he0 he1 H) (And.intro rfl (And.intro rfl (And.intro rfl trivial)))
def L_X12_isLikeHead_31  (x1 : Int) (x2 : Int) (u : Mu) (P : Int ⊕ ((Unit) ⊕ (Unit)) → Prop) : Prop :=
  (if 320 ≤ x2 then P (.inr (.inl ())) else (0 ≤ x1 ∧ x1 < 122 ∧ (if mI u 1 x1 ≤ w32 (Int.tdiv x2 10) then F_X12_isLikeHead_68 x1 x2 u P else (0 ≤ x1 ∧ x1 < 122 ∧ (if mI u 2 x1 ≤ w32 (Int.tmod x2 10) then F_X12_isLikeHead_68 x1 x2 u P else F_X12_isLikeHead_69 x1 x2 1 u P)))))
theorem U_X12_isLikeHead_31  {x1 : Int} {x2 : Int} {u : Mu} {P : Int ⊕ ((Unit) ⊕ (Unit)) → Prop} {h : Hp} {g : Nat → Nat} {post : Option Sv ⊕ String → Hp → Prop} (r_x1 : R32 x1) (r_x2 : R32 x2) (m : Ms h g u)  (hl : ∀ (x2 : Int), P (.inl x2) → R32 x2 → J mX12_isLikeHead 4 0 0 post 31 [some (vr (some (g 0))), some (ii (x1)), some (ii (x2)), none] [] h) (he0 : P (.inr (.inl ())) → J mX12_isLikeHead 4 0 0 post 111 [none, none, none, none] [] h) (he1 : P (.inr (.inr ())) → J mX12_isLikeHead 4 0 0 post 103 [none, none, none, none] [] h) (H : L_X12_isLikeHead_31 x1 x2 u P) : J mX12_isLikeHead 4 0 0 post 31 [some (vr (some (g 0))), some (ii (x1)), some (ii (x2)), none] [] h := by
  unfold L_X12_isLikeHead_31 at H
  refine j_iload_n (dk dt_X12_isLikeHead 19 rfl) rfl ?_
  refine j_sipush (v := Int32.ofInt 320) (dk dt_X12_isLikeHead 20 rfl) (by decide) ?_
  refine jz_icmp_ge 111 (dk dt_X12_isLikeHead 21 rfl) (by decide) r_x2 (by decide) H (fun H => ?_) (fun H => ?_)
  · exact j_el (he0  H ) trivial
  · refine j_iload_n (dk dt_X12_isLikeHead 22 rfl) rfl ?_
    refine j_bipush (v := Int32.ofInt 10) (dk dt_X12_isLikeHead 23 rfl) (by decide) ?_
    refine jz_idiv (dk dt_X12_isLikeHead 24 rfl) r_x2 (by decide) (by decide) ?_
    refine j_aload_n (dk dt_X12_isLikeHead 25 rfl) rfl ?_
    refine jm_getA (dk dt_X12_isLikeHead 26 rfl) fl_X12_7 rfl (c := 14) rfl m ?_
    refine j_iload_n (dk dt_X12_isLikeHead 27 rfl) rfl ?_
    obtain ⟨p_47, q_47, H⟩ := H
    refine jm_iald (dk dt_X12_isLikeHead 28 rfl) rfl rfl m p_47 q_47 ?_
    refine jz_icmp_ge 68 (dk dt_X12_isLikeHead 29 rfl) (by decide) (r32_w _) (m.2.1.1 _ _) H (fun H => ?_) (fun H => ?_)
    · exact j_el (T_X12_isLikeHead_68 r_x1 r_x2 m  hl he0 he1 H) (And.intro rfl (And.intro rfl (And.intro rfl trivial)))
    · refine j_iload_n (dk dt_X12_isLikeHead 30 rfl) rfl ?_
      refine j_bipush (v := Int32.ofInt 10) (dk dt_X12_isLikeHead 31 rfl) (by decide) ?_
      refine jz_irem (dk dt_X12_isLikeHead 32 rfl) r_x2 (by decide) (by decide) ?_
      refine j_aload_n (dk dt_X12_isLikeHead 33 rfl) rfl ?_
      refine jm_getA (dk dt_X12_isLikeHead 34 rfl) fl_X12_13 rfl (c := 14) rfl m ?_
      refine j_iload_n (dk dt_X12_isLikeHead 35 rfl) rfl ?_
      obtain ⟨p_60, q_60, H⟩ := H
      refine jm_iald (dk dt_X12_isLikeHead 36 rfl) rfl rfl m p_60 q_60 ?_
      refine jz_icmp_ge 68 (dk dt_X12_isLikeHead 37 rfl) (by decide) (r32_w _) (m.2.1.1 _ _) H (fun H => ?_) (fun H => ?_)
      · exact j_el (T_X12_isLikeHead_68 r_x1 r_x2 m  hl he0 he1 H) (And.intro rfl (And.intro rfl (And.intro rfl trivial)))
      · refine j_iconst (v := Int32.ofInt 1) (dk dt_X12_isLikeHead 38 rfl) (by decide) ?_
        refine j_goto 69 (dk dt_X12_isLikeHead 39 rfl) (by decide) ?_
        exact j_el (T_X12_isLikeHead_69 r_x1 r_x2 (by decide) m  hl he0 he1 H) (And.intro rfl (And.intro rfl (And.intro rfl trivial)))
def F_X12_isLikeHead_31  (x1 : Int) (x2 : Int) (u : Mu) (P : Int → Prop) : Prop :=
  lp (S := Int) (E := (Unit) ⊕ (Unit)) (fun q P_ => L_X12_isLikeHead_31 x1 q u P_) x2 (fun e => match e with | (.inl _) => P 1 | (.inr _) => P 0)
theorem T_X12_isLikeHead_31  {x1 : Int} {x2 : Int} {u : Mu} {P : Int → Prop} {h : Hp} {g : Nat → Nat} (r_x1 : R32 x1) (r_x2 : R32 x2) (m : Ms h g u)   (H : F_X12_isLikeHead_31 x1 x2 u P) : J mX12_isLikeHead 4 0 0 (nx (QPI h P)) 31 [some (vr (some (g 0))), some (ii (x1)), some (ii (x2)), none] [] h := by
  unfold F_X12_isLikeHead_31 at H
  refine lp_J (G := fun q => R32 (q) → J mX12_isLikeHead 4 0 0 (nx (QPI h P)) 31 [some (vr (some (g 0))), some (ii (x1)), some (ii ((q))), none] [] h) (fun x2 P_ hl_ he_ Hb => ?_) x2 H r_x2
  intro r_x2
  refine U_X12_isLikeHead_31 (P := P_) r_x1 r_x2 m  (fun x2 Hp r_x2 => hl_ x2 Hp r_x2) ?_ ?_ Hb
  · intro Hp
    have H := he_ _ Hp
    refine j_iconst (v := Int32.ofInt 1) (dk dt_X12_isLikeHead 65 rfl) (by decide) ?_
    exact j_ireturn (dk dt_X12_isLikeHead 66 rfl) rfl (nar_z (by decide)) ⟨_, rfl, (by decide), rfl, H⟩
  · intro Hp
    have H := he_ _ Hp
    refine j_iconst (v := Int32.ofInt 0) (dk dt_X12_isLikeHead 61 rfl) (by decide) ?_
    exact j_ireturn (dk dt_X12_isLikeHead 62 rfl) rfl (nar_z (by decide)) ⟨_, rfl, (by decide), rfl, H⟩
def F_X12_isLikeHead  (u : Mu) (P : Int → Prop) : Prop :=
  F_X12_head u (fun x_1 => F_X12_isLike_ 40 x_1 0 u (fun x_10 => (if x_10 = 0 then F_X12_isLikeHead_27 u P else F_X12_isLike_ 40 x_1 1 u (fun x_21 => (if x_21 = 0 then F_X12_isLikeHead_27 u P else F_X12_isLikeHead_31 x_1 0 u P)))))
theorem T_X12_isLikeHead  {u : Mu} {P : Int → Prop} {h : Hp} {g : Nat → Nat}  (m : Ms h g u)  (H : F_X12_isLikeHead u P) : Con mX12_isLikeHead 4 0 0 [vr (some (g 0))] h (QPI h P) := by
  refine con_of rfl (Nat.le_of_ble_eq_true rfl) (by decide) ?_
  show J mX12_isLikeHead 4 0 0 _ 0 [some (vr (some (g 0))), none, none, none] [] h
  unfold F_X12_isLikeHead at H
  refine j_aload_n (dk dt_X12_isLikeHead 0 rfl) rfl ?_
  refine jz_callV0 (dk dt_X12_isLikeHead 1 rfl) vl_X12_860 rfl (T_X12_head m H) m.1.1 rfl (by decide) (Nat.zero_le _) (Nat.zero_le _) (Nat.le_of_ble_eq_true rfl) (fun v_1 h_1 P_1 => ?_)
  obtain ⟨x_1, rfl, r_1, rfl, H⟩ := P_1
  dsimp only [rs]
  refine j_istore_n (dk dt_X12_isLikeHead 2 rfl) (by decide) ?_
  refine j_aload_n (dk dt_X12_isLikeHead 3 rfl) rfl ?_
  refine j_bipush (v := Int32.ofInt 40) (dk dt_X12_isLikeHead 4 rfl) (by decide) ?_
  refine j_iload_n (dk dt_X12_isLikeHead 5 rfl) rfl ?_
  refine j_iconst (v := Int32.ofInt 0) (dk dt_X12_isLikeHead 6 rfl) (by decide) ?_
  refine jz_callV3 (dk dt_X12_isLikeHead 7 rfl) vl_X12_863 rfl (T_X12_isLike_ (by decide) r_1 (by decide) m H) m.1.1 rfl (by decide) (Nat.zero_le _) (Nat.zero_le _) (Nat.le_of_ble_eq_true rfl) (fun v_10 h_10 P_10 => ?_)
  obtain ⟨x_10, rfl, r_10, rfl, H⟩ := P_10
  dsimp only [rs]
  refine jz_if_eq 27 (dk dt_X12_isLikeHead 8 rfl) (by decide) r_10 H (fun H => ?_) (fun H => ?_)
  · exact j_el (T_X12_isLikeHead_27  m   H) trivial
  · refine j_aload_n (dk dt_X12_isLikeHead 9 rfl) rfl ?_
    refine j_bipush (v := Int32.ofInt 40) (dk dt_X12_isLikeHead 10 rfl) (by decide) ?_
    refine j_iload_n (dk dt_X12_isLikeHead 11 rfl) rfl ?_
    refine j_iconst (v := Int32.ofInt 1) (dk dt_X12_isLikeHead 12 rfl) (by decide) ?_
    refine jz_callV3 (dk dt_X12_isLikeHead 13 rfl) vl_X12_863 rfl (T_X12_isLike_ (by decide) r_1 (by decide) m H) m.1.1 rfl (by decide) (Nat.zero_le _) (Nat.zero_le _) (Nat.le_of_ble_eq_true rfl) (fun v_21 h_21 P_21 => ?_)
    obtain ⟨x_21, rfl, r_21, rfl, H⟩ := P_21
    dsimp only [rs]
    refine jz_if_ne 29 (dk dt_X12_isLikeHead 14 rfl) (by decide) r_21 H (fun H => ?_) (fun H => ?_)
    · exact j_el (T_X12_isLikeHead_27  m   H) trivial
    · refine j_iconst (v := Int32.ofInt 0) (dk dt_X12_isLikeHead 17 rfl) (by decide) ?_
      refine j_istore_n (dk dt_X12_isLikeHead 18 rfl) (by decide) ?_
      exact j_el (T_X12_isLikeHead_31 r_1 (by decide) m   H) (And.intro rfl (And.intro rfl (And.intro rfl trivial)))
def F_X12_go_56  (u : Mu) (P : Int → Mu → Prop) : Prop :=
  F_X12_throwing 3 u (fun x_58 u_58 => P x_58 u_58)
theorem T_X12_go_56  {u : Mu} {P : Int → Mu → Prop} {h : Hp} {g : Nat → Nat}  (m : Ms h g u)   (H : F_X12_go_56 u P) : J mX12_go 5 0 0 (nx (QMI g P)) 56 [some (vr (some (g 0))), none] [] h := by
  unfold F_X12_go_56 at H
  refine j_aload_n (dk dt_X12_go 30 rfl) rfl ?_
  refine j_iconst (v := Int32.ofInt 3) (dk dt_X12_go 31 rfl) (by decide) ?_
  refine jz_callV1 (dk dt_X12_go 32 rfl) vl_X12_237 rfl (T_X12_throwing (by decide) m H) m.1.1 rfl (by decide) (Nat.zero_le _) (Nat.zero_le _) (Nat.le_of_ble_eq_true rfl) (fun v_58 h_58 P_58 => ?_)
  obtain ⟨x_58, u_58, rfl, r_58, m_58, H⟩ := P_58
  dsimp only [rs]
  exact j_ireturn (dk dt_X12_go 33 rfl) rfl rfl ⟨_, _, rfl, r_58, m_58, H⟩
def F_X12_go  (x1 : Int) (u : Mu) (P : Int → Mu → Prop) : Prop :=
  (∀ u_2, u_2 = uI u 0 0 0 → F_X12_in x1 0 5 (fun x_8 => (if x_8 = 0 then F_X12_throwing 1 u_2 (fun x_16 u_16 => P x_16 u_16) else (0 ≤ x1 ∧ x1 < 6 ∧ (if 0 ≤ mI u_2 11 x1 then (if 0 ≤ mI u_2 0 13 then F_X12_go_56 u_2 P else F_X12_unsettled u_2 (fun x_43 => (if 0 < x_43 then F_X12_go_56 u_2 P else F_X12_isLikeHead u_2 (fun x_50 => (if x_50 = 0 then F_X12_go_56 u_2 P else (∀ u_64, u_64 = uI u_2 0 12 x1 → F_X12_head u_64 (fun x_69 => F_X12_become x_69 u_64 (fun u_72 => F_X12_head u_72 (fun x_76 => P x_76 u_72))))))))) else F_X12_throwing 2 u_2 (fun x_31 u_31 => P x_31 u_31))))))
theorem T_X12_go  {x1 : Int} {u : Mu} {P : Int → Mu → Prop} {h : Hp} {g : Nat → Nat} (r_x1 : R32 x1) (m : Ms h g u)  (H : F_X12_go x1 u P) : Con mX12_go 5 0 0 [vr (some (g 0)), ii (x1)] h (QMI g P) := by
  refine con_of rfl (Nat.le_of_ble_eq_true rfl) (by decide) ?_
  show J mX12_go 5 0 0 _ 0 [some (vr (some (g 0))), some (ii (x1))] [] h
  unfold F_X12_go at H
  refine j_aload_n (dk dt_X12_go 0 rfl) rfl ?_
  refine j_iconst (v := Int32.ofInt 0) (dk dt_X12_go 1 rfl) (by decide) ?_
  refine jm_putI (kz := 0) (dk dt_X12_go 2 rfl) fl_X12_202 rfl rfl rfl rfl m (by decide) (fun h_2 m_2 => ?_)
  replace H := H _ rfl
  refine j_iload_n (dk dt_X12_go 3 rfl) rfl ?_
  refine j_iconst (v := Int32.ofInt 0) (dk dt_X12_go 4 rfl) (by decide) ?_
  refine j_iconst (v := Int32.ofInt 5) (dk dt_X12_go 5 rfl) (by decide) ?_
  refine j_callS3 (dk dt_X12_go 6 rfl) sl_X12_220 (T_X12_in r_x1 (by decide) (by decide) H) rfl (by decide) (Nat.zero_le _) (Nat.zero_le _) (Nat.le_of_ble_eq_true rfl) (fun v_8 h_8 P_8 => ?_)
  obtain ⟨x_8, rfl, r_8, rfl, H⟩ := P_8
  dsimp only [rs]
  refine jz_if_ne 20 (dk dt_X12_go 7 rfl) (by decide) r_8 H (fun H => ?_) (fun H => ?_)
  · refine j_aload_n (dk dt_X12_go 8 rfl) rfl ?_
    refine j_iconst (v := Int32.ofInt 1) (dk dt_X12_go 9 rfl) (by decide) ?_
    refine jz_callV1 (dk dt_X12_go 10 rfl) vl_X12_237 rfl (T_X12_throwing (by decide) m_2 H) m_2.1.1 rfl (by decide) (Nat.zero_le _) (Nat.zero_le _) (Nat.le_of_ble_eq_true rfl) (fun v_16 h_16 P_16 => ?_)
    obtain ⟨x_16, u_16, rfl, r_16, m_16, H⟩ := P_16
    dsimp only [rs]
    exact j_ireturn (dk dt_X12_go 11 rfl) rfl rfl ⟨_, _, rfl, r_16, m_16, H⟩
  · refine j_aload_n (dk dt_X12_go 12 rfl) rfl ?_
    refine jm_getA (dk dt_X12_go 13 rfl) fl_X12_42 rfl (c := 14) rfl m_2 ?_
    refine j_iload_n (dk dt_X12_go 14 rfl) rfl ?_
    obtain ⟨p_25, q_25, H⟩ := H
    refine jm_iald (dk dt_X12_go 15 rfl) rfl rfl m_2 p_25 q_25 ?_
    refine jz_if_ge 35 (dk dt_X12_go 16 rfl) (by decide) (m_2.2.1.1 _ _) H (fun H => ?_) (fun H => ?_)
    · refine j_aload_n (dk dt_X12_go 21 rfl) rfl ?_
      refine jm_getI (kz := 13) (dk dt_X12_go 22 rfl) fl_X12_45 rfl rfl m_2 ?_
      refine jz_if_ge 56 (dk dt_X12_go 23 rfl) (by decide) (m_2.2.1.1 _ _) H (fun H => ?_) (fun H => ?_)
      · exact j_el (T_X12_go_56  m_2   H) (And.intro rfl trivial)
      · refine j_aload_n (dk dt_X12_go 24 rfl) rfl ?_
        refine jz_callV0 (dk dt_X12_go 25 rfl) vl_X12_871 rfl (T_X12_unsettled m_2 H) m_2.1.1 rfl (by decide) (Nat.zero_le _) (Nat.zero_le _) (Nat.le_of_ble_eq_true rfl) (fun v_43 h_43 P_43 => ?_)
        obtain ⟨x_43, rfl, r_43, rfl, H⟩ := P_43
        dsimp only [rs]
        refine jz_if_gt 56 (dk dt_X12_go 26 rfl) (by decide) r_43 H (fun H => ?_) (fun H => ?_)
        · exact j_el (T_X12_go_56  m_2   H) (And.intro rfl trivial)
        · refine j_aload_n (dk dt_X12_go 27 rfl) rfl ?_
          refine jz_callV0 (dk dt_X12_go 28 rfl) vl_X12_877 rfl (T_X12_isLikeHead m_2 H) m_2.1.1 rfl (by decide) (Nat.zero_le _) (Nat.zero_le _) (Nat.le_of_ble_eq_true rfl) (fun v_50 h_50 P_50 => ?_)
          obtain ⟨x_50, rfl, r_50, rfl, H⟩ := P_50
          dsimp only [rs]
          refine jz_if_ne 62 (dk dt_X12_go 29 rfl) (by decide) r_50 H (fun H => ?_) (fun H => ?_)
          · exact j_el (T_X12_go_56  m_2   H) (And.intro rfl trivial)
          · refine j_aload_n (dk dt_X12_go 34 rfl) rfl ?_
            refine j_iload_n (dk dt_X12_go 35 rfl) rfl ?_
            refine jm_putI (kz := 12) (dk dt_X12_go 36 rfl) fl_X12_857 rfl rfl rfl rfl m_2 r_x1 (fun h_64 m_64 => ?_)
            replace H := H _ rfl
            refine j_aload_n (dk dt_X12_go 37 rfl) rfl ?_
            refine j_aload_n (dk dt_X12_go 38 rfl) rfl ?_
            refine jz_callV0 (dk dt_X12_go 39 rfl) vl_X12_860 rfl (T_X12_head m_64 H) m_64.1.1 rfl (by decide) (Nat.zero_le _) (Nat.zero_le _) (Nat.le_of_ble_eq_true rfl) (fun v_69 h_69 P_69 => ?_)
            obtain ⟨x_69, rfl, r_69, rfl, H⟩ := P_69
            dsimp only [rs]
            refine jz_callV1 (dk dt_X12_go 40 rfl) vl_X12_880 rfl (T_X12_become r_69 m_64 H) m_64.1.1 rfl (by decide) (Nat.zero_le _) (Nat.zero_le _) (Nat.le_of_ble_eq_true rfl) (fun v_72 h_72 P_72 => ?_)
            obtain ⟨u_72, rfl, m_72, H⟩ := P_72
            dsimp only [rs]
            refine j_aload_n (dk dt_X12_go 41 rfl) rfl ?_
            refine jz_callV0 (dk dt_X12_go 42 rfl) vl_X12_860 rfl (T_X12_head m_72 H) m_72.1.1 rfl (by decide) (Nat.zero_le _) (Nat.zero_le _) (Nat.le_of_ble_eq_true rfl) (fun v_76 h_76 P_76 => ?_)
            obtain ⟨x_76, rfl, r_76, rfl, H⟩ := P_76
            dsimp only [rs]
            exact j_ireturn (dk dt_X12_go 43 rfl) rfl rfl ⟨_, _, rfl, r_76, m_72, H⟩
    · refine j_aload_n (dk dt_X12_go 17 rfl) rfl ?_
      refine j_iconst (v := Int32.ofInt 2) (dk dt_X12_go 18 rfl) (by decide) ?_
      refine jz_callV1 (dk dt_X12_go 19 rfl) vl_X12_237 rfl (T_X12_throwing (by decide) m_2 H) m_2.1.1 rfl (by decide) (Nat.zero_le _) (Nat.zero_le _) (Nat.le_of_ble_eq_true rfl) (fun v_31 h_31 P_31 => ?_)
      obtain ⟨x_31, u_31, rfl, r_31, m_31, H⟩ := P_31
      dsimp only [rs]
      exact j_ireturn (dk dt_X12_go 20 rfl) rfl rfl ⟨_, _, rfl, r_31, m_31, H⟩
def F_X12_goesThrough  (x1 : Int) (u : Mu) (P : Mu → Prop) : Prop :=
  (0 ≤ x1 ∧ x1 < 320 ∧ (∀ u_6, u_6 = uI u 84 x1 1 → (0 ≤ w32 (Int.tdiv x1 64) ∧ w32 (Int.tdiv x1 64) < 5 ∧ (∀ u_24, u_24 = uG u_6 85 (w32 (Int.tdiv x1 64)) (lOr (mG u_6 85 (w32 (Int.tdiv x1 64))) (lShl 1 (w32 (Int.tmod x1 64)))) → P u_24))))
theorem T_X12_goesThrough  {x1 : Int} {u : Mu} {P : Mu → Prop} {h : Hp} {g : Nat → Nat} (r_x1 : R32 x1) (m : Ms h g u)  (H : F_X12_goesThrough x1 u P) : Con mX12_goesThrough 1 0 0 [vr (some (g 0)), ii (x1)] h (QMV g P) := by
  refine con_of rfl (Nat.le_of_ble_eq_true rfl) (by decide) ?_
  show J mX12_goesThrough 1 0 0 _ 0 [some (vr (some (g 0))), some (ii (x1))] [] h
  unfold F_X12_goesThrough at H
  refine j_aload_n (dk dt_X12_goesThrough 0 rfl) rfl ?_
  refine jm_getA (dk dt_X12_goesThrough 1 rfl) fl_X12_147 rfl (c := 16) rfl m ?_
  refine j_iload_n (dk dt_X12_goesThrough 2 rfl) rfl ?_
  refine j_iconst (v := Int32.ofInt 1) (dk dt_X12_goesThrough 3 rfl) (by decide) ?_
  obtain ⟨p_6, q_6, H⟩ := H
  refine jm_zast (dk dt_X12_goesThrough 4 rfl) rfl rfl m p_6 q_6 (by decide) (fun h_6 m_6 => ?_)
  replace H := H _ rfl
  refine j_aload_n (dk dt_X12_goesThrough 5 rfl) rfl ?_
  refine jm_getA (dk dt_X12_goesThrough 6 rfl) fl_X12_150 rfl (c := 15) rfl m_6 ?_
  refine j_iload_n (dk dt_X12_goesThrough 7 rfl) rfl ?_
  refine j_bipush (v := Int32.ofInt 64) (dk dt_X12_goesThrough 8 rfl) (by decide) ?_
  refine jz_idiv (dk dt_X12_goesThrough 9 rfl) r_x1 (by decide) (by decide) ?_
  refine j_dup2 (dk dt_X12_goesThrough 10 rfl) rfl rfl ?_
  obtain ⟨p_16, q_16, H⟩ := H
  refine jm_lald (dk dt_X12_goesThrough 11 rfl) rfl rfl m_6 p_16 q_16 ?_
  refine j_lconst (v := Int64.ofInt 1) (dk dt_X12_goesThrough 12 rfl) (by decide) ?_
  refine j_iload_n (dk dt_X12_goesThrough 13 rfl) rfl ?_
  refine j_bipush (v := Int32.ofInt 64) (dk dt_X12_goesThrough 14 rfl) (by decide) ?_
  refine jz_irem (dk dt_X12_goesThrough 15 rfl) r_x1 (by decide) (by decide) ?_
  refine jz_lshl (dk dt_X12_goesThrough 16 rfl) ?_
  refine jz_lor (dk dt_X12_goesThrough 17 rfl) ?_
  refine jm_last (dk dt_X12_goesThrough 18 rfl) rfl rfl m_6 p_16 q_16 (r64_t _) (fun h_24 m_24 => ?_)
  replace H := H _ rfl
  exact j_return (dk dt_X12_goesThrough 19 rfl) rfl ⟨_, rfl, m_24, H⟩
def L_X12_insert_85  (x1 : Int) (x2 : Int) (x3 : Int) (x4 : Int) (x5 : Int) (u : Mu) (P : (Int × Mu) ⊕ ((Mu)) → Prop) : Prop :=
  (if x3 < x5 then P (.inr u) else F_X12_comeLine x1 (w32 (x5 - 1)) x4 x5 u (fun u_101 => P (.inl (w32 (x5 + 1), u_101))))
theorem U_X12_insert_85  {x1 : Int} {x2 : Int} {x3 : Int} {x4 : Int} {x5 : Int} {u : Mu} {P : (Int × Mu) ⊕ ((Mu)) → Prop} {h : Hp} {g : Nat → Nat} {post : Option Sv ⊕ String → Hp → Prop} (r_x1 : R32 x1) (r_x2 : R32 x2) (r_x3 : R32 x3) (r_x4 : R32 x4) (r_x5 : R32 x5) (m : Ms h g u)  (hl : ∀ (x5 : Int) (u : Mu) (h : Hp), P (.inl (x5, u)) → Ms h g u → R32 x5 → J mX12_insert 3 0 0 post 85 [some (vr (some (g 0))), some (ii (x1)), some (ii (x2)), some (ii (x3)), some (ii (x4)), some (ii (x5))] [] h) (he0 : ∀ (u : Mu) (h : Hp), P (.inr u) → Ms h g u → J mX12_insert 3 0 0 post 110 [some (vr (some (g 0))), some (ii (x1)), some (ii (x2)), some (ii (x3)), none, none] [] h) (H : L_X12_insert_85 x1 x2 x3 x4 x5 u P) : J mX12_insert 3 0 0 post 85 [some (vr (some (g 0))), some (ii (x1)), some (ii (x2)), some (ii (x3)), some (ii (x4)), some (ii (x5))] [] h := by
  unfold L_X12_insert_85 at H
  refine j_iload (dk dt_X12_insert 51 rfl) rfl ?_
  refine j_iload_n (dk dt_X12_insert 52 rfl) rfl ?_
  refine jz_icmp_gt 110 (dk dt_X12_insert 53 rfl) (by decide) r_x5 r_x3 H (fun H => ?_) (fun H => ?_)
  · exact j_el (he0 _ _ H m) (And.intro rfl (And.intro rfl (And.intro rfl (And.intro rfl trivial))))
  · refine j_aload_n (dk dt_X12_insert 54 rfl) rfl ?_
    refine j_iload_n (dk dt_X12_insert 55 rfl) rfl ?_
    refine j_iload (dk dt_X12_insert 56 rfl) rfl ?_
    refine j_iconst (v := Int32.ofInt 1) (dk dt_X12_insert 57 rfl) (by decide) ?_
    refine jz_isub (dk dt_X12_insert 58 rfl) ?_
    refine j_iload (dk dt_X12_insert 59 rfl) rfl ?_
    refine j_iload (dk dt_X12_insert 60 rfl) rfl ?_
    refine jz_callV4 (dk dt_X12_insert 61 rfl) vl_X12_831 rfl (T_X12_comeLine r_x1 (r32_w _) r_x4 r_x5 m H) m.1.1 rfl (by decide) (Nat.zero_le _) (Nat.zero_le _) (Nat.le_of_ble_eq_true rfl) (fun v_101 h_101 P_101 => ?_)
    obtain ⟨u_101, rfl, m_101, H⟩ := P_101
    dsimp only [rs]
    refine jz_iinc (dk dt_X12_insert 62 rfl) rfl ?_
    refine j_goto 85 (dk dt_X12_insert 63 rfl) (by decide) ?_
    exact j_el (hl _ _ _ H m_101 (r32_w _)) (And.intro rfl (And.intro rfl (And.intro rfl (And.intro rfl (And.intro rfl (And.intro rfl trivial))))))
def F_X12_insert_170  (x3 : Int) (u : Mu) (P : Int → Mu → Prop) : Prop :=
  P (w32 (x3 + 1)) u
theorem T_X12_insert_170  {x3 : Int} {u : Mu} {P : Int → Mu → Prop} {h : Hp} {g : Nat → Nat} (r_x3 : R32 x3) (m : Ms h g u)   (H : F_X12_insert_170 x3 u P) : J mX12_insert 3 0 0 (nx (QMI g P)) 170 [none, none, none, some (ii (x3)), none, none] [] h := by
  unfold F_X12_insert_170 at H
  refine j_iload_n (dk dt_X12_insert 99 rfl) rfl ?_
  refine j_iconst (v := Int32.ofInt 1) (dk dt_X12_insert 100 rfl) (by decide) ?_
  refine jz_iadd (dk dt_X12_insert 101 rfl) ?_
  exact j_ireturn (dk dt_X12_insert 102 rfl) rfl rfl ⟨_, _, rfl, (r32_w _), m, H⟩
def F_X12_insert_140  (x1 : Int) (x3 : Int) (s1 : Int) (s2 : Int) (s3 : Int) (s4 : Int) (u : Mu) (P : Int → Mu → Prop) : Prop :=
  F_X12_setLine s1 s2 s3 s4 u (fun u_140 => (if x1 = 0 then (∀ u_154, u_154 = uI u_140 0 6 (w32 (mI u_140 0 6 + 1)) → F_X12_insert_170 x3 u_154 P) else (∀ u_167, u_167 = uI u_140 0 7 (w32 (mI u_140 0 7 + 1)) → F_X12_insert_170 x3 u_167 P)))
theorem T_X12_insert_140  {x1 : Int} {x3 : Int} {s1 : Int} {s2 : Int} {s3 : Int} {s4 : Int} {u : Mu} {P : Int → Mu → Prop} {h : Hp} {g : Nat → Nat} (r_x1 : R32 x1) (r_x3 : R32 x3) (r_s1 : R32 s1) (r_s2 : R32 s2) (r_s3 : R32 s3) (r_s4 : R32 s4) (m : Ms h g u)   (H : F_X12_insert_140 x1 x3 s1 s2 s3 s4 u P) : J mX12_insert 3 0 0 (nx (QMI g P)) 140 [some (vr (some (g 0))), some (ii (x1)), none, some (ii (x3)), none, none] [ii (s4), ii (s3), ii (s2), ii (s1), vr (some (g 0))] h := by
  unfold F_X12_insert_140 at H
  refine jz_callV4 (dk dt_X12_insert 83 rfl) vl_X12_818 rfl (T_X12_setLine r_s1 r_s2 r_s3 r_s4 m H) m.1.1 rfl (by decide) (Nat.zero_le _) (Nat.zero_le _) (Nat.le_of_ble_eq_true rfl) (fun v_140 h_140 P_140 => ?_)
  obtain ⟨u_140, rfl, m_140, H⟩ := P_140
  dsimp only [rs]
  refine j_iload_n (dk dt_X12_insert 84 rfl) rfl ?_
  refine jz_if_ne 160 (dk dt_X12_insert 85 rfl) (by decide) r_x1 H (fun H => ?_) (fun H => ?_)
  · refine j_aload_n (dk dt_X12_insert 86 rfl) rfl ?_
    refine j_dup (dk dt_X12_insert 87 rfl) rfl ?_
    refine jm_getI (kz := 6) (dk dt_X12_insert 88 rfl) fl_X12_26 rfl rfl m_140 ?_
    refine j_iconst (v := Int32.ofInt 1) (dk dt_X12_insert 89 rfl) (by decide) ?_
    refine jz_iadd (dk dt_X12_insert 90 rfl) ?_
    refine jm_putI (kz := 6) (dk dt_X12_insert 91 rfl) fl_X12_26 rfl rfl rfl rfl m_140 (r32_w _) (fun h_154 m_154 => ?_)
    replace H := H _ rfl
    refine j_goto 170 (dk dt_X12_insert 92 rfl) (by decide) ?_
    exact j_el (T_X12_insert_170 r_x3 m_154   H) (And.intro rfl trivial)
  · refine j_aload_n (dk dt_X12_insert 93 rfl) rfl ?_
    refine j_dup (dk dt_X12_insert 94 rfl) rfl ?_
    refine jm_getI (kz := 7) (dk dt_X12_insert 95 rfl) fl_X12_30 rfl rfl m_140 ?_
    refine j_iconst (v := Int32.ofInt 1) (dk dt_X12_insert 96 rfl) (by decide) ?_
    refine jz_iadd (dk dt_X12_insert 97 rfl) ?_
    refine jm_putI (kz := 7) (dk dt_X12_insert 98 rfl) fl_X12_30 rfl rfl rfl rfl m_140 (r32_w _) (fun h_167 m_167 => ?_)
    replace H := H _ rfl
    exact j_el (T_X12_insert_170 r_x3 m_167   H) (And.intro rfl trivial)
def F_X12_insert_85  (x1 : Int) (x2 : Int) (x3 : Int) (x4 : Int) (x5 : Int) (u : Mu) (P : Int → Mu → Prop) : Prop :=
  lp (S := Int × Mu) (E := (Mu)) (fun q P_ => L_X12_insert_85 x1 x2 x3 x4 q.1 q.2 P_) (x5, u) (fun (u : Mu) => F_X12_emptyLine x1 (w32 (x2 - 1)) u (fun u_115 => (if x1 = 0 then F_X12_insert_140 x1 x3 40 x1 (w32 (x2 - 1)) (mI u_115 0 6) u_115 P else F_X12_insert_140 x1 x3 40 x1 (w32 (x2 - 1)) (mI u_115 0 7) u_115 P)))
theorem T_X12_insert_85  {x1 : Int} {x2 : Int} {x3 : Int} {x4 : Int} {x5 : Int} {u : Mu} {P : Int → Mu → Prop} {h : Hp} {g : Nat → Nat} (r_x1 : R32 x1) (r_x2 : R32 x2) (r_x3 : R32 x3) (r_x4 : R32 x4) (r_x5 : R32 x5) (m : Ms h g u)   (H : F_X12_insert_85 x1 x2 x3 x4 x5 u P) : J mX12_insert 3 0 0 (nx (QMI g P)) 85 [some (vr (some (g 0))), some (ii (x1)), some (ii (x2)), some (ii (x3)), some (ii (x4)), some (ii (x5))] [] h := by
  unfold F_X12_insert_85 at H
  refine lp_J (G := fun q => ∀ h : Hp, Ms h g (q.2) → R32 (q.1) → J mX12_insert 3 0 0 (nx (QMI g P)) 85 [some (vr (some (g 0))), some (ii (x1)), some (ii (x2)), some (ii (x3)), some (ii (x4)), some (ii ((q.1)))] [] h) (fun q P_ hl_ he_ Hb => ?_) (x5, u) H _ m r_x5
  obtain ⟨x5, u⟩ := q
  intro h m r_x5
  refine U_X12_insert_85 (P := P_) r_x1 r_x2 r_x3 r_x4 r_x5 m  (fun x5 u h Hp m r_x5 => hl_ (x5, u) Hp h m r_x5) ?_ Hb
  · intro u h Hp m
    have H := he_ _ Hp
    refine j_aload_n (dk dt_X12_insert 64 rfl) rfl ?_
    refine j_iload_n (dk dt_X12_insert 65 rfl) rfl ?_
    refine j_iload_n (dk dt_X12_insert 66 rfl) rfl ?_
    refine j_iconst (v := Int32.ofInt 1) (dk dt_X12_insert 67 rfl) (by decide) ?_
    refine jz_isub (dk dt_X12_insert 68 rfl) ?_
    refine jz_callV2 (dk dt_X12_insert 69 rfl) vl_X12_834 rfl (T_X12_emptyLine r_x1 (r32_w _) m H) m.1.1 rfl (by decide) (Nat.zero_le _) (Nat.zero_le _) (Nat.le_of_ble_eq_true rfl) (fun v_115 h_115 P_115 => ?_)
    obtain ⟨u_115, rfl, m_115, H⟩ := P_115
    dsimp only [rs]
    refine j_aload_n (dk dt_X12_insert 70 rfl) rfl ?_
    refine j_bipush (v := Int32.ofInt 40) (dk dt_X12_insert 71 rfl) (by decide) ?_
    refine j_iload_n (dk dt_X12_insert 72 rfl) rfl ?_
    refine j_iload_n (dk dt_X12_insert 73 rfl) rfl ?_
    refine j_iconst (v := Int32.ofInt 1) (dk dt_X12_insert 74 rfl) (by decide) ?_
    refine jz_isub (dk dt_X12_insert 75 rfl) ?_
    refine j_iload_n (dk dt_X12_insert 76 rfl) rfl ?_
    refine jz_if_ne 136 (dk dt_X12_insert 77 rfl) (by decide) r_x1 H (fun H => ?_) (fun H => ?_)
    · refine j_aload_n (dk dt_X12_insert 78 rfl) rfl ?_
      refine jm_getI (kz := 6) (dk dt_X12_insert 79 rfl) fl_X12_26 rfl rfl m_115 ?_
      refine j_goto 140 (dk dt_X12_insert 80 rfl) (by decide) ?_
      exact j_el (T_X12_insert_140 r_x1 r_x3 (by decide) r_x1 (r32_w _) (m_115.2.1.1 _ _) m_115   H) (And.intro rfl (And.intro rfl (And.intro rfl trivial)))
    · refine j_aload_n (dk dt_X12_insert 81 rfl) rfl ?_
      refine jm_getI (kz := 7) (dk dt_X12_insert 82 rfl) fl_X12_30 rfl rfl m_115 ?_
      exact j_el (T_X12_insert_140 r_x1 r_x3 (by decide) r_x1 (r32_w _) (m_115.2.1.1 _ _) m_115   H) (And.intro rfl (And.intro rfl (And.intro rfl trivial)))
def F_X12_insert_57  (x1 : Int) (x2 : Int) (x3 : Int) (s0 : Int) (s1 : Int) (u : Mu) (P : Int → Mu → Prop) : Prop :=
  (if s0 = s1 then F_X12_throwing 3 u (fun x_62 u_62 => P x_62 u_62) else F_X12_step u (fun x_67 u_67 => F_X12_setLines 40 x1 (w32 (x3 + 1)) u_67 (fun u_79 => F_X12_insert_85 x1 x2 x3 x_67 x2 u_79 P)))
theorem T_X12_insert_57  {x1 : Int} {x2 : Int} {x3 : Int} {s0 : Int} {s1 : Int} {u : Mu} {P : Int → Mu → Prop} {h : Hp} {g : Nat → Nat} (r_x1 : R32 x1) (r_x2 : R32 x2) (r_x3 : R32 x3) (r_s0 : R32 s0) (r_s1 : R32 s1) (m : Ms h g u)   (H : F_X12_insert_57 x1 x2 x3 s0 s1 u P) : J mX12_insert 3 0 0 (nx (QMI g P)) 57 [some (vr (some (g 0))), some (ii (x1)), some (ii (x2)), some (ii (x3)), none, none] [ii (s1), ii (s0)] h := by
  unfold F_X12_insert_57 at H
  refine jz_icmp_ne 66 (dk dt_X12_insert 34 rfl) (by decide) r_s0 r_s1 H (fun H => ?_) (fun H => ?_)
  · refine j_aload_n (dk dt_X12_insert 35 rfl) rfl ?_
    refine j_iconst (v := Int32.ofInt 3) (dk dt_X12_insert 36 rfl) (by decide) ?_
    refine jz_callV1 (dk dt_X12_insert 37 rfl) vl_X12_237 rfl (T_X12_throwing (by decide) m H) m.1.1 rfl (by decide) (Nat.zero_le _) (Nat.zero_le _) (Nat.le_of_ble_eq_true rfl) (fun v_62 h_62 P_62 => ?_)
    obtain ⟨x_62, u_62, rfl, r_62, m_62, H⟩ := P_62
    dsimp only [rs]
    exact j_ireturn (dk dt_X12_insert 38 rfl) rfl rfl ⟨_, _, rfl, r_62, m_62, H⟩
  · refine j_aload_n (dk dt_X12_insert 39 rfl) rfl ?_
    refine jz_callV0 (dk dt_X12_insert 40 rfl) vl_X12_340 rfl (T_X12_step m H) m.1.1 rfl (by decide) (Nat.zero_le _) (Nat.zero_le _) (Nat.le_of_ble_eq_true rfl) (fun v_67 h_67 P_67 => ?_)
    obtain ⟨x_67, u_67, rfl, r_67, m_67, H⟩ := P_67
    dsimp only [rs]
    refine j_istore (dk dt_X12_insert 41 rfl) (by decide) ?_
    refine j_aload_n (dk dt_X12_insert 42 rfl) rfl ?_
    refine j_bipush (v := Int32.ofInt 40) (dk dt_X12_insert 43 rfl) (by decide) ?_
    refine j_iload_n (dk dt_X12_insert 44 rfl) rfl ?_
    refine j_iload_n (dk dt_X12_insert 45 rfl) rfl ?_
    refine j_iconst (v := Int32.ofInt 1) (dk dt_X12_insert 46 rfl) (by decide) ?_
    refine jz_iadd (dk dt_X12_insert 47 rfl) ?_
    refine jz_callV3 (dk dt_X12_insert 48 rfl) vl_X12_828 rfl (T_X12_setLines (by decide) r_x1 (r32_w _) m_67 H) m_67.1.1 rfl (by decide) (Nat.zero_le _) (Nat.zero_le _) (Nat.le_of_ble_eq_true rfl) (fun v_79 h_79 P_79 => ?_)
    obtain ⟨u_79, rfl, m_79, H⟩ := P_79
    dsimp only [rs]
    refine j_iload_n (dk dt_X12_insert 49 rfl) rfl ?_
    refine j_istore (dk dt_X12_insert 50 rfl) (by decide) ?_
    exact j_el (T_X12_insert_85 r_x1 r_x2 r_x3 r_67 r_x2 m_79   H) (And.intro rfl (And.intro rfl (And.intro rfl (And.intro rfl (And.intro rfl (And.intro rfl trivial))))))
def F_X12_insert  (x1 : Int) (x2 : Int) (u : Mu) (P : Int → Mu → Prop) : Prop :=
  (∀ u_2, u_2 = uI u 0 0 0 → F_X12_in x1 0 1 (fun x_8 => (if x_8 = 0 then F_X12_throwing 1 u_2 (fun x_16 u_16 => P x_16 u_16) else F_X12_linesOf 40 x1 u_2 (fun x_24 => F_X12_in x2 1 (w32 (x_24 + 1)) (fun x_33 => (if x_33 = 0 then F_X12_throwing 2 u_2 (fun x_41 u_41 => P x_41 u_41) else (if x1 = 0 then F_X12_insert_57 x1 x2 x_24 x_24 32 u_2 P else F_X12_insert_57 x1 x2 x_24 x_24 10 u_2 P)))))))
theorem T_X12_insert  {x1 : Int} {x2 : Int} {u : Mu} {P : Int → Mu → Prop} {h : Hp} {g : Nat → Nat} (r_x1 : R32 x1) (r_x2 : R32 x2) (m : Ms h g u)  (H : F_X12_insert x1 x2 u P) : Con mX12_insert 3 0 0 [vr (some (g 0)), ii (x1), ii (x2)] h (QMI g P) := by
  refine con_of rfl (Nat.le_of_ble_eq_true rfl) (by decide) ?_
  show J mX12_insert 3 0 0 _ 0 [some (vr (some (g 0))), some (ii (x1)), some (ii (x2)), none, none, none] [] h
  unfold F_X12_insert at H
  refine j_aload_n (dk dt_X12_insert 0 rfl) rfl ?_
  refine j_iconst (v := Int32.ofInt 0) (dk dt_X12_insert 1 rfl) (by decide) ?_
  refine jm_putI (kz := 0) (dk dt_X12_insert 2 rfl) fl_X12_202 rfl rfl rfl rfl m (by decide) (fun h_2 m_2 => ?_)
  replace H := H _ rfl
  refine j_iload_n (dk dt_X12_insert 3 rfl) rfl ?_
  refine j_iconst (v := Int32.ofInt 0) (dk dt_X12_insert 4 rfl) (by decide) ?_
  refine j_iconst (v := Int32.ofInt 1) (dk dt_X12_insert 5 rfl) (by decide) ?_
  refine j_callS3 (dk dt_X12_insert 6 rfl) sl_X12_220 (T_X12_in r_x1 (by decide) (by decide) H) rfl (by decide) (Nat.zero_le _) (Nat.zero_le _) (Nat.le_of_ble_eq_true rfl) (fun v_8 h_8 P_8 => ?_)
  obtain ⟨x_8, rfl, r_8, rfl, H⟩ := P_8
  dsimp only [rs]
  refine jz_if_ne 20 (dk dt_X12_insert 7 rfl) (by decide) r_8 H (fun H => ?_) (fun H => ?_)
  · refine j_aload_n (dk dt_X12_insert 8 rfl) rfl ?_
    refine j_iconst (v := Int32.ofInt 1) (dk dt_X12_insert 9 rfl) (by decide) ?_
    refine jz_callV1 (dk dt_X12_insert 10 rfl) vl_X12_237 rfl (T_X12_throwing (by decide) m_2 H) m_2.1.1 rfl (by decide) (Nat.zero_le _) (Nat.zero_le _) (Nat.le_of_ble_eq_true rfl) (fun v_16 h_16 P_16 => ?_)
    obtain ⟨x_16, u_16, rfl, r_16, m_16, H⟩ := P_16
    dsimp only [rs]
    exact j_ireturn (dk dt_X12_insert 11 rfl) rfl rfl ⟨_, _, rfl, r_16, m_16, H⟩
  · refine j_aload_n (dk dt_X12_insert 12 rfl) rfl ?_
    refine j_bipush (v := Int32.ofInt 40) (dk dt_X12_insert 13 rfl) (by decide) ?_
    refine j_iload_n (dk dt_X12_insert 14 rfl) rfl ?_
    refine jz_callV2 (dk dt_X12_insert 15 rfl) vl_X12_209 rfl (T_X12_linesOf (by decide) r_x1 m_2 H) m_2.1.1 rfl (by decide) (Nat.zero_le _) (Nat.zero_le _) (Nat.le_of_ble_eq_true rfl) (fun v_24 h_24 P_24 => ?_)
    obtain ⟨x_24, rfl, r_24, rfl, H⟩ := P_24
    dsimp only [rs]
    refine j_istore_n (dk dt_X12_insert 16 rfl) (by decide) ?_
    refine j_iload_n (dk dt_X12_insert 17 rfl) rfl ?_
    refine j_iconst (v := Int32.ofInt 1) (dk dt_X12_insert 18 rfl) (by decide) ?_
    refine j_iload_n (dk dt_X12_insert 19 rfl) rfl ?_
    refine j_iconst (v := Int32.ofInt 1) (dk dt_X12_insert 20 rfl) (by decide) ?_
    refine jz_iadd (dk dt_X12_insert 21 rfl) ?_
    refine j_callS3 (dk dt_X12_insert 22 rfl) sl_X12_220 (T_X12_in r_x2 (by decide) (r32_w _) H) rfl (by decide) (Nat.zero_le _) (Nat.zero_le _) (Nat.le_of_ble_eq_true rfl) (fun v_33 h_33 P_33 => ?_)
    obtain ⟨x_33, rfl, r_33, rfl, H⟩ := P_33
    dsimp only [rs]
    refine jz_if_ne 45 (dk dt_X12_insert 23 rfl) (by decide) r_33 H (fun H => ?_) (fun H => ?_)
    · refine j_aload_n (dk dt_X12_insert 24 rfl) rfl ?_
      refine j_iconst (v := Int32.ofInt 2) (dk dt_X12_insert 25 rfl) (by decide) ?_
      refine jz_callV1 (dk dt_X12_insert 26 rfl) vl_X12_237 rfl (T_X12_throwing (by decide) m_2 H) m_2.1.1 rfl (by decide) (Nat.zero_le _) (Nat.zero_le _) (Nat.le_of_ble_eq_true rfl) (fun v_41 h_41 P_41 => ?_)
      obtain ⟨x_41, u_41, rfl, r_41, m_41, H⟩ := P_41
      dsimp only [rs]
      exact j_ireturn (dk dt_X12_insert 27 rfl) rfl rfl ⟨_, _, rfl, r_41, m_41, H⟩
    · refine j_iload_n (dk dt_X12_insert 28 rfl) rfl ?_
      refine j_iload_n (dk dt_X12_insert 29 rfl) rfl ?_
      refine jz_if_ne 55 (dk dt_X12_insert 30 rfl) (by decide) r_x1 H (fun H => ?_) (fun H => ?_)
      · refine j_bipush (v := Int32.ofInt 32) (dk dt_X12_insert 31 rfl) (by decide) ?_
        refine j_goto 57 (dk dt_X12_insert 32 rfl) (by decide) ?_
        exact j_el (T_X12_insert_57 r_x1 r_x2 r_24 r_24 (by decide) m_2   H) (And.intro rfl (And.intro rfl (And.intro rfl (And.intro rfl trivial))))
      · refine j_bipush (v := Int32.ofInt 10) (dk dt_X12_insert 33 rfl) (by decide) ?_
        exact j_el (T_X12_insert_57 r_x1 r_x2 r_24 r_24 (by decide) m_2   H) (And.intro rfl (And.intro rfl (And.intro rfl (And.intro rfl trivial))))
def F_X12_rank_9  (s0 : Int) (P : Int → Prop) : Prop :=
  P s0
theorem T_X12_rank_9  {s0 : Int} {P : Int → Prop} {h : Hp} (r_s0 : R32 s0)    (H : F_X12_rank_9 s0 P) : J mX12_rank 1 0 0 (nx (QPI h P)) 9 [none] [ii (s0)] h := by
  unfold F_X12_rank_9 at H
  exact j_ireturn (dk dt_X12_rank 5 rfl) rfl rfl ⟨_, rfl, r_s0, rfl, H⟩
def F_X12_rank  (x0 : Int) (P : Int → Prop) : Prop :=
  (if x0 = 0 then F_X12_rank_9 5 P else F_X12_rank_9 x0 P)
theorem T_X12_rank  {x0 : Int} {P : Int → Prop} {h : Hp} (r_x0 : R32 x0)   (H : F_X12_rank x0 P) : Con mX12_rank 1 0 0 [ii (x0)] h (QPI h P) := by
  refine con_of rfl (Nat.le_of_ble_eq_true rfl) (by decide) ?_
  show J mX12_rank 1 0 0 _ 0 [some (ii (x0))] [] h
  unfold F_X12_rank at H
  refine j_iload_n (dk dt_X12_rank 0 rfl) rfl ?_
  refine jz_if_ne 8 (dk dt_X12_rank 1 rfl) (by decide) r_x0 H (fun H => ?_) (fun H => ?_)
  · refine j_iconst (v := Int32.ofInt 5) (dk dt_X12_rank 2 rfl) (by decide) ?_
    refine j_goto 9 (dk dt_X12_rank 3 rfl) (by decide) ?_
    exact j_el (T_X12_rank_9 (by decide)    H) trivial
  · refine j_iload_n (dk dt_X12_rank 4 rfl) rfl ?_
    exact j_el (T_X12_rank_9 r_x0    H) trivial
def F_X12_isAhead_46  (s0 : Int) (u : Mu) (P : Int → Mu → Prop) : Prop :=
  (Z1 s0 ∧ P s0 u)
theorem T_X12_isAhead_46  {s0 : Int} {u : Mu} {P : Int → Mu → Prop} {h : Hp} {g : Nat → Nat} (r_s0 : R32 s0) (m : Ms h g u)   (H : F_X12_isAhead_46 s0 u P) : J mX12_isAhead 3 0 0 (nx (QMI g P)) 46 [none, none, none, none, none, none, none] [ii (s0)] h := by
  unfold F_X12_isAhead_46 at H
  obtain ⟨hz_, H⟩ := H
  exact j_ireturn (dk dt_X12_isAhead 24 rfl) rfl (nar_z hz_) ⟨_, _, rfl, r_s0, m, H⟩
def F_X12_isAhead_34  (x4 : Int) (x5 : Int) (u : Mu) (P : Int → Mu → Prop) : Prop :=
  (if x5 ≤ x4 then F_X12_isAhead_46 0 u P else F_X12_isAhead_46 1 u P)
theorem T_X12_isAhead_34  {x4 : Int} {x5 : Int} {u : Mu} {P : Int → Mu → Prop} {h : Hp} {g : Nat → Nat} (r_x4 : R32 x4) (r_x5 : R32 x5) (m : Ms h g u)   (H : F_X12_isAhead_34 x4 x5 u P) : J mX12_isAhead 3 0 0 (nx (QMI g P)) 34 [none, none, none, none, some (ii (x4)), some (ii (x5)), none] [] h := by
  unfold F_X12_isAhead_34 at H
  refine j_iload (dk dt_X12_isAhead 18 rfl) rfl ?_
  refine j_iload (dk dt_X12_isAhead 19 rfl) rfl ?_
  refine jz_icmp_ge 45 (dk dt_X12_isAhead 20 rfl) (by decide) r_x4 r_x5 H (fun H => ?_) (fun H => ?_)
  · refine j_iconst (v := Int32.ofInt 0) (dk dt_X12_isAhead 23 rfl) (by decide) ?_
    exact j_el (T_X12_isAhead_46 (by decide) m   H) trivial
  · refine j_iconst (v := Int32.ofInt 1) (dk dt_X12_isAhead 21 rfl) (by decide) ?_
    refine j_goto 46 (dk dt_X12_isAhead 22 rfl) (by decide) ?_
    exact j_el (T_X12_isAhead_46 (by decide) m   H) trivial
def F_X12_isAhead_131  (s0 : Int) (u : Mu) (P : Int → Mu → Prop) : Prop :=
  (Z1 s0 ∧ P s0 u)
theorem T_X12_isAhead_131  {s0 : Int} {u : Mu} {P : Int → Mu → Prop} {h : Hp} {g : Nat → Nat} (r_s0 : R32 s0) (m : Ms h g u)   (H : F_X12_isAhead_131 s0 u P) : J mX12_isAhead 3 0 0 (nx (QMI g P)) 131 [none, none, none, none, none, none, none] [ii (s0)] h := by
  unfold F_X12_isAhead_131 at H
  obtain ⟨hz_, H⟩ := H
  exact j_ireturn (dk dt_X12_isAhead 71 rfl) rfl (nar_z hz_) ⟨_, _, rfl, r_s0, m, H⟩
def F_X12_isAhead_75  (s0 : Int) (u : Mu) (P : Int → Mu → Prop) : Prop :=
  (Z1 s0 ∧ P s0 u)
theorem T_X12_isAhead_75  {s0 : Int} {u : Mu} {P : Int → Mu → Prop} {h : Hp} {g : Nat → Nat} (r_s0 : R32 s0) (m : Ms h g u)   (H : F_X12_isAhead_75 s0 u P) : J mX12_isAhead 3 0 0 (nx (QMI g P)) 75 [none, none, none, none, none, none, none] [ii (s0)] h := by
  unfold F_X12_isAhead_75 at H
  obtain ⟨hz_, H⟩ := H
  exact j_ireturn (dk dt_X12_isAhead 39 rfl) rfl (nar_z hz_) ⟨_, _, rfl, r_s0, m, H⟩
def F_X12_isAhead_66  (x3 : Int) (s0 : Int) (u : Mu) (P : Int → Mu → Prop) : Prop :=
  (if s0 = x3 then F_X12_isAhead_75 0 u P else F_X12_isAhead_75 1 u P)
theorem T_X12_isAhead_66  {x3 : Int} {s0 : Int} {u : Mu} {P : Int → Mu → Prop} {h : Hp} {g : Nat → Nat} (r_x3 : R32 x3) (r_s0 : R32 s0) (m : Ms h g u)   (H : F_X12_isAhead_66 x3 s0 u P) : J mX12_isAhead 3 0 0 (nx (QMI g P)) 66 [none, none, none, some (ii (x3)), none, none, none] [ii (s0)] h := by
  unfold F_X12_isAhead_66 at H
  refine j_iload_n (dk dt_X12_isAhead 34 rfl) rfl ?_
  refine jz_icmp_eq 74 (dk dt_X12_isAhead 35 rfl) (by decide) r_s0 r_x3 H (fun H => ?_) (fun H => ?_)
  · refine j_iconst (v := Int32.ofInt 0) (dk dt_X12_isAhead 38 rfl) (by decide) ?_
    exact j_el (T_X12_isAhead_75 (by decide) m   H) trivial
  · refine j_iconst (v := Int32.ofInt 1) (dk dt_X12_isAhead 36 rfl) (by decide) ?_
    refine j_goto 75 (dk dt_X12_isAhead 37 rfl) (by decide) ?_
    exact j_el (T_X12_isAhead_75 (by decide) m   H) trivial
def F_X12_isAhead  (x1 : Int) (x2 : Int) (x3 : Int) (u : Mu) (P : Int → Mu → Prop) : Prop :=
  (0 ≤ x1 ∧ x1 < 13120 ∧ F_X12_rank (mI u 60 x1) (fun x_6 => (0 ≤ x2 ∧ x2 < 13120 ∧ F_X12_rank (mI u 60 x2) (fun x_17 => (if x_6 = 5 then F_X12_isAhead_34 x_6 x_17 u P else (if x_17 = 5 then F_X12_isAhead_34 x_6 x_17 u P else (if x_6 = x_17 then (if x_6 = 4 then P 0 u else F_X12_load 0 x1 u (fun u_87 => F_X12_load 1 x2 u_87 (fun u_93 => F_X12_order 0 1 u_93 (fun x_99 => (if x3 = 0 then (if 0 ≤ x_99 then F_X12_isAhead_131 0 u_93 P else F_X12_isAhead_131 1 u_93 P) else (if x_99 ≤ 0 then F_X12_isAhead_131 0 u_93 P else F_X12_isAhead_131 1 u_93 P)))))) else (if x_17 ≤ x_6 then F_X12_isAhead_66 x3 0 u P else F_X12_isAhead_66 x3 1 u P))))))))
theorem T_X12_isAhead  {x1 : Int} {x2 : Int} {x3 : Int} {u : Mu} {P : Int → Mu → Prop} {h : Hp} {g : Nat → Nat} (r_x1 : R32 x1) (r_x2 : R32 x2) (r_x3 : R32 x3) (m : Ms h g u)  (H : F_X12_isAhead x1 x2 x3 u P) : Con mX12_isAhead 3 0 0 [vr (some (g 0)), ii (x1), ii (x2), ii (x3)] h (QMI g P) := by
  refine con_of rfl (Nat.le_of_ble_eq_true rfl) (by decide) ?_
  show J mX12_isAhead 3 0 0 _ 0 [some (vr (some (g 0))), some (ii (x1)), some (ii (x2)), some (ii (x3)), none, none, none] [] h
  unfold F_X12_isAhead at H
  refine j_aload_n (dk dt_X12_isAhead 0 rfl) rfl ?_
  refine jm_getA (dk dt_X12_isAhead 1 rfl) fl_X12_109 rfl (c := 14) rfl m ?_
  refine j_iload_n (dk dt_X12_isAhead 2 rfl) rfl ?_
  obtain ⟨p_5, q_5, H⟩ := H
  refine jm_iald (dk dt_X12_isAhead 3 rfl) rfl rfl m p_5 q_5 ?_
  refine j_callS1 (dk dt_X12_isAhead 4 rfl) sl_X12_850 (T_X12_rank (m.2.1.1 _ _) H) rfl (by decide) (Nat.zero_le _) (Nat.zero_le _) (Nat.le_of_ble_eq_true rfl) (fun v_6 h_6 P_6 => ?_)
  obtain ⟨x_6, rfl, r_6, rfl, H⟩ := P_6
  dsimp only [rs]
  refine j_istore (dk dt_X12_isAhead 5 rfl) (by decide) ?_
  refine j_aload_n (dk dt_X12_isAhead 6 rfl) rfl ?_
  refine jm_getA (dk dt_X12_isAhead 7 rfl) fl_X12_109 rfl (c := 14) rfl m ?_
  refine j_iload_n (dk dt_X12_isAhead 8 rfl) rfl ?_
  obtain ⟨p_16, q_16, H⟩ := H
  refine jm_iald (dk dt_X12_isAhead 9 rfl) rfl rfl m p_16 q_16 ?_
  refine j_callS1 (dk dt_X12_isAhead 10 rfl) sl_X12_850 (T_X12_rank (m.2.1.1 _ _) H) rfl (by decide) (Nat.zero_le _) (Nat.zero_le _) (Nat.le_of_ble_eq_true rfl) (fun v_17 h_17 P_17 => ?_)
  obtain ⟨x_17, rfl, r_17, rfl, H⟩ := P_17
  dsimp only [rs]
  refine j_istore (dk dt_X12_isAhead 11 rfl) (by decide) ?_
  refine j_iload (dk dt_X12_isAhead 12 rfl) rfl ?_
  refine j_iconst (v := Int32.ofInt 5) (dk dt_X12_isAhead 13 rfl) (by decide) ?_
  refine jz_icmp_eq 34 (dk dt_X12_isAhead 14 rfl) (by decide) r_6 (by decide) H (fun H => ?_) (fun H => ?_)
  · exact j_el (T_X12_isAhead_34 r_6 r_17 m   H) (And.intro rfl (And.intro rfl trivial))
  · refine j_iload (dk dt_X12_isAhead 15 rfl) rfl ?_
    refine j_iconst (v := Int32.ofInt 5) (dk dt_X12_isAhead 16 rfl) (by decide) ?_
    refine jz_icmp_ne 47 (dk dt_X12_isAhead 17 rfl) (by decide) r_17 (by decide) H (fun H => ?_) (fun H => ?_)
    · exact j_el (T_X12_isAhead_34 r_6 r_17 m   H) (And.intro rfl (And.intro rfl trivial))
    · refine j_iload (dk dt_X12_isAhead 25 rfl) rfl ?_
      refine j_iload (dk dt_X12_isAhead 26 rfl) rfl ?_
      refine jz_icmp_eq 76 (dk dt_X12_isAhead 27 rfl) (by decide) r_6 r_17 H (fun H => ?_) (fun H => ?_)
      · refine j_iload (dk dt_X12_isAhead 40 rfl) rfl ?_
        refine j_iconst (v := Int32.ofInt 4) (dk dt_X12_isAhead 41 rfl) (by decide) ?_
        refine jz_icmp_ne 84 (dk dt_X12_isAhead 42 rfl) (by decide) r_6 (by decide) H (fun H => ?_) (fun H => ?_)
        · refine j_iconst (v := Int32.ofInt 0) (dk dt_X12_isAhead 43 rfl) (by decide) ?_
          exact j_ireturn (dk dt_X12_isAhead 44 rfl) rfl (nar_z (by decide)) ⟨_, _, rfl, (by decide), m, H⟩
        · refine j_aload_n (dk dt_X12_isAhead 45 rfl) rfl ?_
          refine j_iconst (v := Int32.ofInt 0) (dk dt_X12_isAhead 46 rfl) (by decide) ?_
          refine j_iload_n (dk dt_X12_isAhead 47 rfl) rfl ?_
          refine jz_callV2 (dk dt_X12_isAhead 48 rfl) vl_X12_585 rfl (T_X12_load (by decide) r_x1 m H) m.1.1 rfl (by decide) (Nat.zero_le _) (Nat.zero_le _) (Nat.le_of_ble_eq_true rfl) (fun v_87 h_87 P_87 => ?_)
          obtain ⟨u_87, rfl, m_87, H⟩ := P_87
          dsimp only [rs]
          refine j_aload_n (dk dt_X12_isAhead 49 rfl) rfl ?_
          refine j_iconst (v := Int32.ofInt 1) (dk dt_X12_isAhead 50 rfl) (by decide) ?_
          refine j_iload_n (dk dt_X12_isAhead 51 rfl) rfl ?_
          refine jz_callV2 (dk dt_X12_isAhead 52 rfl) vl_X12_585 rfl (T_X12_load (by decide) r_x2 m_87 H) m_87.1.1 rfl (by decide) (Nat.zero_le _) (Nat.zero_le _) (Nat.le_of_ble_eq_true rfl) (fun v_93 h_93 P_93 => ?_)
          obtain ⟨u_93, rfl, m_93, H⟩ := P_93
          dsimp only [rs]
          refine j_aload_n (dk dt_X12_isAhead 53 rfl) rfl ?_
          refine j_iconst (v := Int32.ofInt 0) (dk dt_X12_isAhead 54 rfl) (by decide) ?_
          refine j_iconst (v := Int32.ofInt 1) (dk dt_X12_isAhead 55 rfl) (by decide) ?_
          refine jz_callV2 (dk dt_X12_isAhead 56 rfl) vl_X12_625 rfl (T_X12_order (by decide) (by decide) m_93 H) m_93.1.1 rfl (by decide) (Nat.zero_le _) (Nat.zero_le _) (Nat.le_of_ble_eq_true rfl) (fun v_99 h_99 P_99 => ?_)
          obtain ⟨x_99, rfl, r_99, rfl, H⟩ := P_99
          dsimp only [rs]
          refine j_istore (dk dt_X12_isAhead 57 rfl) (by decide) ?_
          refine j_iload_n (dk dt_X12_isAhead 58 rfl) rfl ?_
          refine jz_if_eq 121 (dk dt_X12_isAhead 59 rfl) (by decide) r_x3 H (fun H => ?_) (fun H => ?_)
          · refine j_iload (dk dt_X12_isAhead 66 rfl) rfl ?_
            refine jz_if_ge 130 (dk dt_X12_isAhead 67 rfl) (by decide) r_99 H (fun H => ?_) (fun H => ?_)
            · refine j_iconst (v := Int32.ofInt 0) (dk dt_X12_isAhead 70 rfl) (by decide) ?_
              exact j_el (T_X12_isAhead_131 (by decide) m_93   H) trivial
            · refine j_iconst (v := Int32.ofInt 1) (dk dt_X12_isAhead 68 rfl) (by decide) ?_
              refine j_goto 131 (dk dt_X12_isAhead 69 rfl) (by decide) ?_
              exact j_el (T_X12_isAhead_131 (by decide) m_93   H) trivial
          · refine j_iload (dk dt_X12_isAhead 60 rfl) rfl ?_
            refine jz_if_le 117 (dk dt_X12_isAhead 61 rfl) (by decide) r_99 H (fun H => ?_) (fun H => ?_)
            · refine j_iconst (v := Int32.ofInt 0) (dk dt_X12_isAhead 64 rfl) (by decide) ?_
              refine j_goto 131 (dk dt_X12_isAhead 65 rfl) (by decide) ?_
              exact j_el (T_X12_isAhead_131 (by decide) m_93   H) trivial
            · refine j_iconst (v := Int32.ofInt 1) (dk dt_X12_isAhead 62 rfl) (by decide) ?_
              refine j_goto 131 (dk dt_X12_isAhead 63 rfl) (by decide) ?_
              exact j_el (T_X12_isAhead_131 (by decide) m_93   H) trivial
      · refine j_iload (dk dt_X12_isAhead 28 rfl) rfl ?_
        refine j_iload (dk dt_X12_isAhead 29 rfl) rfl ?_
        refine jz_icmp_ge 65 (dk dt_X12_isAhead 30 rfl) (by decide) r_6 r_17 H (fun H => ?_) (fun H => ?_)
        · refine j_iconst (v := Int32.ofInt 0) (dk dt_X12_isAhead 33 rfl) (by decide) ?_
          exact j_el (T_X12_isAhead_66 r_x3 (by decide) m   H) (And.intro rfl trivial)
        · refine j_iconst (v := Int32.ofInt 1) (dk dt_X12_isAhead 31 rfl) (by decide) ?_
          refine j_goto 66 (dk dt_X12_isAhead 32 rfl) (by decide) ?_
          exact j_el (T_X12_isAhead_66 r_x3 (by decide) m   H) (And.intro rfl trivial)
def L_X12_isLetters_13  (x1 : Int) (x2 : Int) (x3 : Nat) (x4 : Int) (u : Mu) (P : Int ⊕ ((Unit) ⊕ (Unit)) → Prop) : Prop :=
  (if x2 ≤ x4 then P (.inr (.inl ())) else (0 ≤ w32 (x1 + x4) ∧ w32 (x1 + x4) < 82400 ∧ (x3 < 44 ∧ (0 ≤ x4 ∧ x4 < sLen x3 ∧ (if mI u 18 (w32 (x1 + x4)) = sCh x3 x4 then P (.inl (w32 (x4 + 1))) else P (.inr (.inr ())))))))
theorem U_X12_isLetters_13  {x1 : Int} {x2 : Int} {x3 : Nat} {x4 : Int} {u : Mu} {P : Int ⊕ ((Unit) ⊕ (Unit)) → Prop} {h : Hp} {g : Nat → Nat} {post : Option Sv ⊕ String → Hp → Prop} (r_x1 : R32 x1) (r_x2 : R32 x2) (r_x4 : R32 x4) (m : Ms h g u)  (hl : ∀ (x4 : Int), P (.inl x4) → R32 x4 → J mX12_isLetters 7 0 0 post 13 [some (vr (some (g 0))), some (ii (x1)), some (ii (x2)), some (vs (x3)), some (ii (x4))] [] h) (he0 : P (.inr (.inl ())) → J mX12_isLetters 7 0 0 post 45 [none, none, none, none, none] [] h) (he1 : P (.inr (.inr ())) → J mX12_isLetters 7 0 0 post 37 [none, none, none, none, none] [] h) (H : L_X12_isLetters_13 x1 x2 x3 x4 u P) : J mX12_isLetters 7 0 0 post 13 [some (vr (some (g 0))), some (ii (x1)), some (ii (x2)), some (vs (x3)), some (ii (x4))] [] h := by
  unfold L_X12_isLetters_13 at H
  refine j_iload (dk dt_X12_isLetters 8 rfl) rfl ?_
  refine j_iload_n (dk dt_X12_isLetters 9 rfl) rfl ?_
  refine jz_icmp_ge 45 (dk dt_X12_isLetters 10 rfl) (by decide) r_x4 r_x2 H (fun H => ?_) (fun H => ?_)
  · exact j_el (he0  H ) trivial
  · refine j_aload_n (dk dt_X12_isLetters 11 rfl) rfl ?_
    refine jm_getA (dk dt_X12_isLetters 12 rfl) fl_X12_49 rfl (c := 13) rfl m ?_
    refine j_iload_n (dk dt_X12_isLetters 13 rfl) rfl ?_
    refine j_iload (dk dt_X12_isLetters 14 rfl) rfl ?_
    refine jz_iadd (dk dt_X12_isLetters 15 rfl) ?_
    obtain ⟨p_27, q_27, H⟩ := H
    refine jm_bald (dk dt_X12_isLetters 16 rfl) rfl rfl m p_27 q_27 ?_
    refine j_aloadS_n (dk dt_X12_isLetters 17 rfl) rfl ?_
    refine j_iload (dk dt_X12_isLetters 18 rfl) rfl ?_
    obtain ⟨l_31, H⟩ := H
    obtain ⟨p_31, q_31, H⟩ := H
    refine jz_scharAt (dk dt_X12_isLetters 19 rfl) sv_X12_273 l_31 p_31 q_31 (by decide) (Nat.le_of_ble_eq_true rfl) ?_
    refine jz_icmp_eq 39 (dk dt_X12_isLetters 20 rfl) (by decide) (m.2.1.1 _ _) (r32_sCh _ _) H (fun H => ?_) (fun H => ?_)
    · refine jz_iinc (dk dt_X12_isLetters 23 rfl) rfl ?_
      refine j_goto 13 (dk dt_X12_isLetters 24 rfl) (by decide) ?_
      exact j_el (hl _ H (r32_w _)) (And.intro rfl (And.intro rfl (And.intro rfl (And.intro rfl (And.intro rfl trivial)))))
    · exact j_el (he1  H ) trivial
def F_X12_isLetters_13  (x1 : Int) (x2 : Int) (x3 : Nat) (x4 : Int) (u : Mu) (P : Int → Prop) : Prop :=
  lp (S := Int) (E := (Unit) ⊕ (Unit)) (fun q P_ => L_X12_isLetters_13 x1 x2 x3 q u P_) x4 (fun e => match e with | (.inl _) => P 1 | (.inr _) => P 0)
theorem T_X12_isLetters_13  {x1 : Int} {x2 : Int} {x3 : Nat} {x4 : Int} {u : Mu} {P : Int → Prop} {h : Hp} {g : Nat → Nat} (r_x1 : R32 x1) (r_x2 : R32 x2) (r_x4 : R32 x4) (m : Ms h g u)   (H : F_X12_isLetters_13 x1 x2 x3 x4 u P) : J mX12_isLetters 7 0 0 (nx (QPI h P)) 13 [some (vr (some (g 0))), some (ii (x1)), some (ii (x2)), some (vs (x3)), some (ii (x4))] [] h := by
  unfold F_X12_isLetters_13 at H
  refine lp_J (G := fun q => R32 (q) → J mX12_isLetters 7 0 0 (nx (QPI h P)) 13 [some (vr (some (g 0))), some (ii (x1)), some (ii (x2)), some (vs (x3)), some (ii ((q)))] [] h) (fun x4 P_ hl_ he_ Hb => ?_) x4 H r_x4
  intro r_x4
  refine U_X12_isLetters_13 (P := P_) r_x1 r_x2 r_x4 m  (fun x4 Hp r_x4 => hl_ x4 Hp r_x4) ?_ ?_ Hb
  · intro Hp
    have H := he_ _ Hp
    refine j_iconst (v := Int32.ofInt 1) (dk dt_X12_isLetters 25 rfl) (by decide) ?_
    exact j_ireturn (dk dt_X12_isLetters 26 rfl) rfl (nar_z (by decide)) ⟨_, rfl, (by decide), rfl, H⟩
  · intro Hp
    have H := he_ _ Hp
    refine j_iconst (v := Int32.ofInt 0) (dk dt_X12_isLetters 21 rfl) (by decide) ?_
    exact j_ireturn (dk dt_X12_isLetters 22 rfl) rfl (nar_z (by decide)) ⟨_, rfl, (by decide), rfl, H⟩
def F_X12_isLetters  (x1 : Int) (x2 : Int) (x3 : Nat) (u : Mu) (P : Int → Prop) : Prop :=
  (x3 < 44 ∧ (if sLen x3 = x2 then F_X12_isLetters_13 x1 x2 x3 0 u P else P 0))
theorem T_X12_isLetters  {x1 : Int} {x2 : Int} {x3 : Nat} {u : Mu} {P : Int → Prop} {h : Hp} {g : Nat → Nat} (r_x1 : R32 x1) (r_x2 : R32 x2) (m : Ms h g u)  (H : F_X12_isLetters x1 x2 x3 u P) : Con mX12_isLetters 7 0 0 [vr (some (g 0)), ii (x1), ii (x2), vs (x3)] h (QPI h P) := by
  refine con_of rfl (Nat.le_of_ble_eq_true rfl) (by decide) ?_
  show J mX12_isLetters 7 0 0 _ 0 [some (vr (some (g 0))), some (ii (x1)), some (ii (x2)), some (vs (x3)), none] [] h
  unfold F_X12_isLetters at H
  refine j_aloadS_n (dk dt_X12_isLetters 0 rfl) rfl ?_
  obtain ⟨l_1, H⟩ := H
  refine jz_slength (dk dt_X12_isLetters 1 rfl) sv_X12_264 l_1 (by decide) (Nat.le_of_ble_eq_true rfl) ?_
  refine j_iload_n (dk dt_X12_isLetters 2 rfl) rfl ?_
  refine jz_icmp_eq 10 (dk dt_X12_isLetters 3 rfl) (by decide) (r32_sLen _) r_x2 H (fun H => ?_) (fun H => ?_)
  · refine j_iconst (v := Int32.ofInt 0) (dk dt_X12_isLetters 6 rfl) (by decide) ?_
    refine j_istore (dk dt_X12_isLetters 7 rfl) (by decide) ?_
    exact j_el (T_X12_isLetters_13 r_x1 r_x2 (by decide) m   H) (And.intro rfl (And.intro rfl (And.intro rfl (And.intro rfl (And.intro rfl trivial)))))
  · refine j_iconst (v := Int32.ofInt 0) (dk dt_X12_isLetters 4 rfl) (by decide) ?_
    exact j_ireturn (dk dt_X12_isLetters 5 rfl) rfl (nar_z (by decide)) ⟨_, rfl, (by decide), rfl, H⟩
def L_X12_isReady_2  (x1 : Int) (x2 : Int) (u : Mu) (P : Int ⊕ ((Unit) ⊕ (Unit)) → Prop) : Prop :=
  (if 5 ≤ x2 then P (.inr (.inl ())) else (0 ≤ w32 (w32 (5 * x1) + x2) ∧ w32 (w32 (5 * x1) + x2) < 1600 ∧ (0 ≤ x2 ∧ x2 < 5 ∧ (if lAnd (mG u 82 (w32 (w32 (5 * x1) + x2))) (lXor (mG u 85 x2) (-1)) = 0 then P (.inl (w32 (x2 + 1))) else P (.inr (.inr ()))))))
theorem U_X12_isReady_2  {x1 : Int} {x2 : Int} {u : Mu} {P : Int ⊕ ((Unit) ⊕ (Unit)) → Prop} {h : Hp} {g : Nat → Nat} {post : Option Sv ⊕ String → Hp → Prop} (r_x1 : R32 x1) (r_x2 : R32 x2) (m : Ms h g u)  (hl : ∀ (x2 : Int), P (.inl x2) → R32 x2 → J mX12_isReady 1 0 0 post 2 [some (vr (some (g 0))), some (ii (x1)), some (ii (x2))] [] h) (he0 : P (.inr (.inl ())) → J mX12_isReady 1 0 0 post 41 [none, none, none] [] h) (he1 : P (.inr (.inr ())) → J mX12_isReady 1 0 0 post 33 [none, none, none] [] h) (H : L_X12_isReady_2 x1 x2 u P) : J mX12_isReady 1 0 0 post 2 [some (vr (some (g 0))), some (ii (x1)), some (ii (x2))] [] h := by
  unfold L_X12_isReady_2 at H
  refine j_iload_n (dk dt_X12_isReady 2 rfl) rfl ?_
  refine j_iconst (v := Int32.ofInt 5) (dk dt_X12_isReady 3 rfl) (by decide) ?_
  refine jz_icmp_ge 41 (dk dt_X12_isReady 4 rfl) (by decide) r_x2 (by decide) H (fun H => ?_) (fun H => ?_)
  · exact j_el (he0  H ) trivial
  · refine j_aload_n (dk dt_X12_isReady 5 rfl) rfl ?_
    refine jm_getA (dk dt_X12_isReady 6 rfl) fl_X12_141 rfl (c := 15) rfl m ?_
    refine j_iconst (v := Int32.ofInt 5) (dk dt_X12_isReady 7 rfl) (by decide) ?_
    refine j_iload_n (dk dt_X12_isReady 8 rfl) rfl ?_
    refine jz_imul (dk dt_X12_isReady 9 rfl) ?_
    refine j_iload_n (dk dt_X12_isReady 10 rfl) rfl ?_
    refine jz_iadd (dk dt_X12_isReady 11 rfl) ?_
    obtain ⟨p_16, q_16, H⟩ := H
    refine jm_lald (dk dt_X12_isReady 12 rfl) rfl rfl m p_16 q_16 ?_
    refine j_aload_n (dk dt_X12_isReady 13 rfl) rfl ?_
    refine jm_getA (dk dt_X12_isReady 14 rfl) fl_X12_150 rfl (c := 15) rfl m ?_
    refine j_iload_n (dk dt_X12_isReady 15 rfl) rfl ?_
    obtain ⟨p_22, q_22, H⟩ := H
    refine jm_lald (dk dt_X12_isReady 16 rfl) rfl rfl m p_22 q_22 ?_
    refine j_ldc2 (v := Int64.ofInt (-1)) (dk dt_X12_isReady 17 rfl) (by exact kl_X12_711) ?_
    refine jz_lxor (dk dt_X12_isReady 18 rfl) ?_
    refine jz_land (dk dt_X12_isReady 19 rfl) ?_
    refine j_lconst (v := Int64.ofInt 0) (dk dt_X12_isReady 20 rfl) (by decide) ?_
    refine jz_lcmp (dk dt_X12_isReady 21 rfl) (r64_t _) (by decide) ?_
    refine jz_lif_eq 35 (dk dt_X12_isReady 22 rfl) (by decide) H (fun H => ?_) (fun H => ?_)
    · refine jz_iinc (dk dt_X12_isReady 25 rfl) rfl ?_
      refine j_goto 2 (dk dt_X12_isReady 26 rfl) (by decide) ?_
      exact j_el (hl _ H (r32_w _)) (And.intro rfl (And.intro rfl (And.intro rfl trivial)))
    · exact j_el (he1  H ) trivial
def F_X12_isReady_2  (x1 : Int) (x2 : Int) (u : Mu) (P : Int → Prop) : Prop :=
  lp (S := Int) (E := (Unit) ⊕ (Unit)) (fun q P_ => L_X12_isReady_2 x1 q u P_) x2 (fun e => match e with | (.inl _) => P 1 | (.inr _) => P 0)
theorem T_X12_isReady_2  {x1 : Int} {x2 : Int} {u : Mu} {P : Int → Prop} {h : Hp} {g : Nat → Nat} (r_x1 : R32 x1) (r_x2 : R32 x2) (m : Ms h g u)   (H : F_X12_isReady_2 x1 x2 u P) : J mX12_isReady 1 0 0 (nx (QPI h P)) 2 [some (vr (some (g 0))), some (ii (x1)), some (ii (x2))] [] h := by
  unfold F_X12_isReady_2 at H
  refine lp_J (G := fun q => R32 (q) → J mX12_isReady 1 0 0 (nx (QPI h P)) 2 [some (vr (some (g 0))), some (ii (x1)), some (ii ((q)))] [] h) (fun x2 P_ hl_ he_ Hb => ?_) x2 H r_x2
  intro r_x2
  refine U_X12_isReady_2 (P := P_) r_x1 r_x2 m  (fun x2 Hp r_x2 => hl_ x2 Hp r_x2) ?_ ?_ Hb
  · intro Hp
    have H := he_ _ Hp
    refine j_iconst (v := Int32.ofInt 1) (dk dt_X12_isReady 27 rfl) (by decide) ?_
    exact j_ireturn (dk dt_X12_isReady 28 rfl) rfl (nar_z (by decide)) ⟨_, rfl, (by decide), rfl, H⟩
  · intro Hp
    have H := he_ _ Hp
    refine j_iconst (v := Int32.ofInt 0) (dk dt_X12_isReady 23 rfl) (by decide) ?_
    exact j_ireturn (dk dt_X12_isReady 24 rfl) rfl (nar_z (by decide)) ⟨_, rfl, (by decide), rfl, H⟩
def F_X12_isReady  (x1 : Int) (u : Mu) (P : Int → Prop) : Prop :=
  F_X12_isReady_2 x1 0 u P
theorem T_X12_isReady  {x1 : Int} {u : Mu} {P : Int → Prop} {h : Hp} {g : Nat → Nat} (r_x1 : R32 x1) (m : Ms h g u)  (H : F_X12_isReady x1 u P) : Con mX12_isReady 1 0 0 [vr (some (g 0)), ii (x1)] h (QPI h P) := by
  refine con_of rfl (Nat.le_of_ble_eq_true rfl) (by decide) ?_
  show J mX12_isReady 1 0 0 _ 0 [some (vr (some (g 0))), some (ii (x1)), none] [] h
  unfold F_X12_isReady at H
  refine j_iconst (v := Int32.ofInt 0) (dk dt_X12_isReady 0 rfl) (by decide) ?_
  refine j_istore_n (dk dt_X12_isReady 1 rfl) (by decide) ?_
  exact j_el (T_X12_isReady_2 r_x1 (by decide) m   H) (And.intro rfl (And.intro rfl (And.intro rfl trivial)))
def F_X12_lead  (x1 : Int) (x2 : Int) (u : Mu) (P : Mu → Prop) : Prop :=
  (0 ≤ w32 (w32 (5 * x1) + (w32 (Int.tdiv x2 64))) ∧ w32 (w32 (5 * x1) + (w32 (Int.tdiv x2 64))) < 1600 ∧ (∀ u_21, u_21 = uG u 82 (w32 (w32 (5 * x1) + (w32 (Int.tdiv x2 64)))) (lOr (mG u 82 (w32 (w32 (5 * x1) + (w32 (Int.tdiv x2 64))))) (lShl 1 (w32 (Int.tmod x2 64)))) → P u_21))
theorem T_X12_lead  {x1 : Int} {x2 : Int} {u : Mu} {P : Mu → Prop} {h : Hp} {g : Nat → Nat} (r_x1 : R32 x1) (r_x2 : R32 x2) (m : Ms h g u)  (H : F_X12_lead x1 x2 u P) : Con mX12_lead 1 0 0 [vr (some (g 0)), ii (x1), ii (x2)] h (QMV g P) := by
  refine con_of rfl (Nat.le_of_ble_eq_true rfl) (by decide) ?_
  show J mX12_lead 1 0 0 _ 0 [some (vr (some (g 0))), some (ii (x1)), some (ii (x2))] [] h
  unfold F_X12_lead at H
  refine j_aload_n (dk dt_X12_lead 0 rfl) rfl ?_
  refine jm_getA (dk dt_X12_lead 1 rfl) fl_X12_141 rfl (c := 15) rfl m ?_
  refine j_iconst (v := Int32.ofInt 5) (dk dt_X12_lead 2 rfl) (by decide) ?_
  refine j_iload_n (dk dt_X12_lead 3 rfl) rfl ?_
  refine jz_imul (dk dt_X12_lead 4 rfl) ?_
  refine j_iload_n (dk dt_X12_lead 5 rfl) rfl ?_
  refine j_bipush (v := Int32.ofInt 64) (dk dt_X12_lead 6 rfl) (by decide) ?_
  refine jz_idiv (dk dt_X12_lead 7 rfl) r_x2 (by decide) (by decide) ?_
  refine jz_iadd (dk dt_X12_lead 8 rfl) ?_
  refine j_dup2 (dk dt_X12_lead 9 rfl) rfl rfl ?_
  obtain ⟨p_13, q_13, H⟩ := H
  refine jm_lald (dk dt_X12_lead 10 rfl) rfl rfl m p_13 q_13 ?_
  refine j_lconst (v := Int64.ofInt 1) (dk dt_X12_lead 11 rfl) (by decide) ?_
  refine j_iload_n (dk dt_X12_lead 12 rfl) rfl ?_
  refine j_bipush (v := Int32.ofInt 64) (dk dt_X12_lead 13 rfl) (by decide) ?_
  refine jz_irem (dk dt_X12_lead 14 rfl) r_x2 (by decide) (by decide) ?_
  refine jz_lshl (dk dt_X12_lead 15 rfl) ?_
  refine jz_lor (dk dt_X12_lead 16 rfl) ?_
  refine jm_last (dk dt_X12_lead 17 rfl) rfl rfl m p_13 q_13 (r64_t _) (fun h_21 m_21 => ?_)
  replace H := H _ rfl
  exact j_return (dk dt_X12_lead 18 rfl) rfl ⟨_, rfl, m_21, H⟩
def F_X12_leadsOf_149  (x1 : Int) (x2 : Int) (x3 : Int) (x4 : Int) (u : Mu) (P : (Int × Mu) ⊕ ((Mu)) → Prop) : Prop :=
  P (.inl (w32 (x4 + 1), u))
theorem T_X12_leadsOf_149  {x1 : Int} {x2 : Int} {x3 : Int} {x4 : Int} {u : Mu} {P : (Int × Mu) ⊕ ((Mu)) → Prop} {h : Hp} {g : Nat → Nat} {post : Option Sv ⊕ String → Hp → Prop} (r_x1 : R32 x1) (r_x2 : R32 x2) (r_x3 : R32 x3) (r_x4 : R32 x4) (m : Ms h g u)  (hl : ∀ (x4 : Int) (u : Mu) (h : Hp), P (.inl (x4, u)) → Ms h g u → R32 x4 → J mX12_leadsOf 4 0 0 post 16 [some (vr (some (g 0))), some (ii (x1)), some (ii (x2)), some (ii (x3)), some (ii (x4)), none, none] [] h) (he0 : ∀ (u : Mu) (h : Hp), P (.inr u) → Ms h g u → J mX12_leadsOf 4 0 0 post 155 [none, none, none, none, none, none, none] [] h) (H : F_X12_leadsOf_149 x1 x2 x3 x4 u P) : J mX12_leadsOf 4 0 0 (post) 149 [some (vr (some (g 0))), some (ii (x1)), some (ii (x2)), some (ii (x3)), some (ii (x4)), none, none] [] h := by
  unfold F_X12_leadsOf_149 at H
  refine jz_iinc (dk dt_X12_leadsOf 83 rfl) rfl ?_
  refine j_goto 16 (dk dt_X12_leadsOf 84 rfl) (by decide) ?_
  exact j_el (hl _ _ _ H m (r32_w _)) (And.intro rfl (And.intro rfl (And.intro rfl (And.intro rfl (And.intro rfl trivial)))))
def F_X12_leadsOf_101  (x1 : Int) (x2 : Int) (x3 : Int) (x4 : Int) (u : Mu) (P : (Int × Mu) ⊕ ((Mu)) → Prop) : Prop :=
  F_X12_leadsOf_149 x1 x2 x3 x4 u P
theorem T_X12_leadsOf_101  {x1 : Int} {x2 : Int} {x3 : Int} {x4 : Int} {u : Mu} {P : (Int × Mu) ⊕ ((Mu)) → Prop} {h : Hp} {g : Nat → Nat} {post : Option Sv ⊕ String → Hp → Prop} (r_x1 : R32 x1) (r_x2 : R32 x2) (r_x3 : R32 x3) (r_x4 : R32 x4) (m : Ms h g u)  (hl : ∀ (x4 : Int) (u : Mu) (h : Hp), P (.inl (x4, u)) → Ms h g u → R32 x4 → J mX12_leadsOf 4 0 0 post 16 [some (vr (some (g 0))), some (ii (x1)), some (ii (x2)), some (ii (x3)), some (ii (x4)), none, none] [] h) (he0 : ∀ (u : Mu) (h : Hp), P (.inr u) → Ms h g u → J mX12_leadsOf 4 0 0 post 155 [none, none, none, none, none, none, none] [] h) (H : F_X12_leadsOf_101 x1 x2 x3 x4 u P) : J mX12_leadsOf 4 0 0 (post) 101 [some (vr (some (g 0))), some (ii (x1)), some (ii (x2)), some (ii (x3)), some (ii (x4)), none, none] [] h := by
  unfold F_X12_leadsOf_101 at H
  refine j_goto 149 (dk dt_X12_leadsOf 59 rfl) (by decide) ?_
  exact j_el (T_X12_leadsOf_149 r_x1 r_x2 r_x3 r_x4 m  hl he0 H) (And.intro rfl (And.intro rfl (And.intro rfl (And.intro rfl (And.intro rfl trivial)))))
def L_X12_leadsOf_117  (x1 : Int) (x2 : Int) (x3 : Int) (x4 : Int) (x6 : Int) (u : Mu) (P : (Int × Mu) ⊕ ((Mu)) → Prop) : Prop :=
  F_X12_areaSize u (fun x_120 => (if x_120 ≤ x6 then P (.inr u) else F_X12_areaCell x6 u (fun x_131 => F_X12_lead x2 (w32 (x_131 - (w32 (320 * x1)))) u (fun u_140 => P (.inl (w32 (x6 + 1), u_140))))))
theorem U_X12_leadsOf_117  {x1 : Int} {x2 : Int} {x3 : Int} {x4 : Int} {x6 : Int} {u : Mu} {P : (Int × Mu) ⊕ ((Mu)) → Prop} {h : Hp} {g : Nat → Nat} {post : Option Sv ⊕ String → Hp → Prop} (r_x1 : R32 x1) (r_x2 : R32 x2) (r_x3 : R32 x3) (r_x4 : R32 x4) (r_x6 : R32 x6) (m : Ms h g u)  (hl : ∀ (x6 : Int) (u : Mu) (h : Hp), P (.inl (x6, u)) → Ms h g u → R32 x6 → J mX12_leadsOf 4 0 0 post 117 [some (vr (some (g 0))), some (ii (x1)), some (ii (x2)), some (ii (x3)), some (ii (x4)), none, some (ii (x6))] [] h) (he0 : ∀ (u : Mu) (h : Hp), P (.inr u) → Ms h g u → J mX12_leadsOf 4 0 0 post 149 [some (vr (some (g 0))), some (ii (x1)), some (ii (x2)), some (ii (x3)), some (ii (x4)), none, none] [] h) (H : L_X12_leadsOf_117 x1 x2 x3 x4 x6 u P) : J mX12_leadsOf 4 0 0 post 117 [some (vr (some (g 0))), some (ii (x1)), some (ii (x2)), some (ii (x3)), some (ii (x4)), none, some (ii (x6))] [] h := by
  unfold L_X12_leadsOf_117 at H
  refine j_iload (dk dt_X12_leadsOf 67 rfl) rfl ?_
  refine j_aload_n (dk dt_X12_leadsOf 68 rfl) rfl ?_
  refine jz_callV0 (dk dt_X12_leadsOf 69 rfl) vl_X12_652 rfl (T_X12_areaSize m H) m.1.1 rfl (by decide) (Nat.zero_le _) (Nat.zero_le _) (Nat.le_of_ble_eq_true rfl) (fun v_120 h_120 P_120 => ?_)
  obtain ⟨x_120, rfl, r_120, rfl, H⟩ := P_120
  dsimp only [rs]
  refine jz_icmp_ge 149 (dk dt_X12_leadsOf 70 rfl) (by decide) r_x6 r_120 H (fun H => ?_) (fun H => ?_)
  · exact j_el (he0 _ _ H m) (And.intro rfl (And.intro rfl (And.intro rfl (And.intro rfl (And.intro rfl trivial)))))
  · refine j_aload_n (dk dt_X12_leadsOf 71 rfl) rfl ?_
    refine j_iload_n (dk dt_X12_leadsOf 72 rfl) rfl ?_
    refine j_aload_n (dk dt_X12_leadsOf 73 rfl) rfl ?_
    refine j_iload (dk dt_X12_leadsOf 74 rfl) rfl ?_
    refine jz_callV1 (dk dt_X12_leadsOf 75 rfl) vl_X12_655 rfl (T_X12_areaCell r_x6 m H) m.1.1 rfl (by decide) (Nat.zero_le _) (Nat.zero_le _) (Nat.le_of_ble_eq_true rfl) (fun v_131 h_131 P_131 => ?_)
    obtain ⟨x_131, rfl, r_131, rfl, H⟩ := P_131
    dsimp only [rs]
    refine j_sipush (v := Int32.ofInt 320) (dk dt_X12_leadsOf 76 rfl) (by decide) ?_
    refine j_iload_n (dk dt_X12_leadsOf 77 rfl) rfl ?_
    refine jz_imul (dk dt_X12_leadsOf 78 rfl) ?_
    refine jz_isub (dk dt_X12_leadsOf 79 rfl) ?_
    refine jz_callV2 (dk dt_X12_leadsOf 80 rfl) vl_X12_698 rfl (T_X12_lead r_x2 (r32_w _) m H) m.1.1 rfl (by decide) (Nat.zero_le _) (Nat.zero_le _) (Nat.le_of_ble_eq_true rfl) (fun v_140 h_140 P_140 => ?_)
    obtain ⟨u_140, rfl, m_140, H⟩ := P_140
    dsimp only [rs]
    refine jz_iinc (dk dt_X12_leadsOf 81 rfl) rfl ?_
    refine j_goto 117 (dk dt_X12_leadsOf 82 rfl) (by decide) ?_
    exact j_el (hl _ _ _ H m_140 (r32_w _)) (And.intro rfl (And.intro rfl (And.intro rfl (And.intro rfl (And.intro rfl (And.intro rfl trivial))))))
def F_X12_leadsOf_117  (x1 : Int) (x2 : Int) (x3 : Int) (x4 : Int) (x6 : Int) (u : Mu) (P : (Int × Mu) ⊕ ((Mu)) → Prop) : Prop :=
  lp (S := Int × Mu) (E := (Mu)) (fun q P_ => L_X12_leadsOf_117 x1 x2 x3 x4 q.1 q.2 P_) (x6, u) (fun (u : Mu) => F_X12_leadsOf_149 x1 x2 x3 x4 u P)
theorem T_X12_leadsOf_117  {x1 : Int} {x2 : Int} {x3 : Int} {x4 : Int} {x6 : Int} {u : Mu} {P : (Int × Mu) ⊕ ((Mu)) → Prop} {h : Hp} {g : Nat → Nat} {post : Option Sv ⊕ String → Hp → Prop} (r_x1 : R32 x1) (r_x2 : R32 x2) (r_x3 : R32 x3) (r_x4 : R32 x4) (r_x6 : R32 x6) (m : Ms h g u)  (hl : ∀ (x4 : Int) (u : Mu) (h : Hp), P (.inl (x4, u)) → Ms h g u → R32 x4 → J mX12_leadsOf 4 0 0 post 16 [some (vr (some (g 0))), some (ii (x1)), some (ii (x2)), some (ii (x3)), some (ii (x4)), none, none] [] h) (he0 : ∀ (u : Mu) (h : Hp), P (.inr u) → Ms h g u → J mX12_leadsOf 4 0 0 post 155 [none, none, none, none, none, none, none] [] h) (H : F_X12_leadsOf_117 x1 x2 x3 x4 x6 u P) : J mX12_leadsOf 4 0 0 (post) 117 [some (vr (some (g 0))), some (ii (x1)), some (ii (x2)), some (ii (x3)), some (ii (x4)), none, some (ii (x6))] [] h := by
  unfold F_X12_leadsOf_117 at H
  refine lp_J (G := fun q => ∀ h : Hp, Ms h g (q.2) → R32 (q.1) → J mX12_leadsOf 4 0 0 (post) 117 [some (vr (some (g 0))), some (ii (x1)), some (ii (x2)), some (ii (x3)), some (ii (x4)), none, some (ii ((q.1)))] [] h) (fun q P_ hl_ he_ Hb => ?_) (x6, u) H _ m r_x6
  obtain ⟨x6, u⟩ := q
  intro h m r_x6
  refine U_X12_leadsOf_117 (P := P_) r_x1 r_x2 r_x3 r_x4 r_x6 m  (fun x6 u h Hp m r_x6 => hl_ (x6, u) Hp h m r_x6) ?_ Hb
  · intro u h Hp m
    have H := he_ _ Hp
    exact j_el (T_X12_leadsOf_149 r_x1 r_x2 r_x3 r_x4 m  hl he0 H) (And.intro rfl (And.intro rfl (And.intro rfl (And.intro rfl (And.intro rfl trivial)))))
def F_X12_leadsOf_104  (x1 : Int) (x2 : Int) (x3 : Int) (x4 : Int) (x5 : Int) (u : Mu) (P : (Int × Mu) ⊕ ((Mu)) → Prop) : Prop :=
  F_X12_area x5 x1 u (fun x_108 u_108 => (if x_108 = 0 then F_X12_leadsOf_149 x1 x2 x3 x4 u_108 P else F_X12_leadsOf_117 x1 x2 x3 x4 0 u_108 P))
theorem T_X12_leadsOf_104  {x1 : Int} {x2 : Int} {x3 : Int} {x4 : Int} {x5 : Int} {u : Mu} {P : (Int × Mu) ⊕ ((Mu)) → Prop} {h : Hp} {g : Nat → Nat} {post : Option Sv ⊕ String → Hp → Prop} (r_x1 : R32 x1) (r_x2 : R32 x2) (r_x3 : R32 x3) (r_x4 : R32 x4) (r_x5 : R32 x5) (m : Ms h g u)  (hl : ∀ (x4 : Int) (u : Mu) (h : Hp), P (.inl (x4, u)) → Ms h g u → R32 x4 → J mX12_leadsOf 4 0 0 post 16 [some (vr (some (g 0))), some (ii (x1)), some (ii (x2)), some (ii (x3)), some (ii (x4)), none, none] [] h) (he0 : ∀ (u : Mu) (h : Hp), P (.inr u) → Ms h g u → J mX12_leadsOf 4 0 0 post 155 [none, none, none, none, none, none, none] [] h) (H : F_X12_leadsOf_104 x1 x2 x3 x4 x5 u P) : J mX12_leadsOf 4 0 0 (post) 104 [some (vr (some (g 0))), some (ii (x1)), some (ii (x2)), some (ii (x3)), some (ii (x4)), some (ii (x5)), none] [] h := by
  unfold F_X12_leadsOf_104 at H
  refine j_aload_n (dk dt_X12_leadsOf 60 rfl) rfl ?_
  refine j_iload (dk dt_X12_leadsOf 61 rfl) rfl ?_
  refine j_iload_n (dk dt_X12_leadsOf 62 rfl) rfl ?_
  refine jz_callV2 (dk dt_X12_leadsOf 63 rfl) vl_X12_649 rfl (T_X12_area r_x5 r_x1 m H) m.1.1 rfl (by decide) (Nat.zero_le _) (Nat.zero_le _) (Nat.le_of_ble_eq_true rfl) (fun v_108 h_108 P_108 => ?_)
  obtain ⟨x_108, u_108, rfl, r_108, m_108, H⟩ := P_108
  dsimp only [rs]
  refine jz_if_eq 149 (dk dt_X12_leadsOf 64 rfl) (by decide) r_108 H (fun H => ?_) (fun H => ?_)
  · exact j_el (T_X12_leadsOf_149 r_x1 r_x2 r_x3 r_x4 m_108  hl he0 H) (And.intro rfl (And.intro rfl (And.intro rfl (And.intro rfl (And.intro rfl trivial)))))
  · refine j_iconst (v := Int32.ofInt 0) (dk dt_X12_leadsOf 65 rfl) (by decide) ?_
    refine j_istore (dk dt_X12_leadsOf 66 rfl) (by decide) ?_
    exact j_el (T_X12_leadsOf_117 r_x1 r_x2 r_x3 r_x4 (by decide) m_108  hl he0 H) (And.intro rfl (And.intro rfl (And.intro rfl (And.intro rfl (And.intro rfl (And.intro rfl trivial))))))
def L_X12_leadsOf_16  (x1 : Int) (x2 : Int) (x3 : Int) (x4 : Int) (u : Mu) (P : (Int × Mu) ⊕ ((Mu)) → Prop) : Prop :=
  (0 ≤ w32 (x3 - 1) ∧ w32 (x3 - 1) < 60420 ∧ (if mI u 38 (w32 (x3 - 1)) ≤ x4 then P (.inr u) else (0 ≤ w32 (w32 (x3 - 1) + x4) ∧ w32 (w32 (x3 - 1) + x4) < 60420 ∧ (if mI u 37 (w32 (w32 (x3 - 1) + x4)) < 0 then (0 ≤ w32 (w32 (x3 - 1) + x4) ∧ w32 (w32 (x3 - 1) + x4) < 60420 ∧ (if mI u 26 (w32 (w32 (x3 - 1) + x4)) = 5 then (0 ≤ w32 (w32 (x3 - 1) + x4) ∧ w32 (w32 (x3 - 1) + x4) < 60420 ∧ (if bAnd (mI u 36 (w32 (w32 (x3 - 1) + x4))) 16 = 0 then F_X12_spotCell (w32 (w32 (x3 - 1) + x4)) x1 u (fun x_78 => (if x_78 < 0 then F_X12_leadsOf_101 x1 x2 x3 x4 u P else F_X12_lead x2 (w32 (x_78 - (w32 (320 * x1)))) u (fun u_98 => F_X12_leadsOf_101 x1 x2 x3 x4 u_98 P))) else F_X12_leadsOf_104 x1 x2 x3 x4 (w32 (w32 (x3 - 1) + x4)) u P)) else F_X12_leadsOf_104 x1 x2 x3 x4 (w32 (w32 (x3 - 1) + x4)) u P)) else F_X12_leadsOf_149 x1 x2 x3 x4 u P))))
theorem U_X12_leadsOf_16  {x1 : Int} {x2 : Int} {x3 : Int} {x4 : Int} {u : Mu} {P : (Int × Mu) ⊕ ((Mu)) → Prop} {h : Hp} {g : Nat → Nat} {post : Option Sv ⊕ String → Hp → Prop} (r_x1 : R32 x1) (r_x2 : R32 x2) (r_x3 : R32 x3) (r_x4 : R32 x4) (m : Ms h g u)  (hl : ∀ (x4 : Int) (u : Mu) (h : Hp), P (.inl (x4, u)) → Ms h g u → R32 x4 → J mX12_leadsOf 4 0 0 post 16 [some (vr (some (g 0))), some (ii (x1)), some (ii (x2)), some (ii (x3)), some (ii (x4)), none, none] [] h) (he0 : ∀ (u : Mu) (h : Hp), P (.inr u) → Ms h g u → J mX12_leadsOf 4 0 0 post 155 [none, none, none, none, none, none, none] [] h) (H : L_X12_leadsOf_16 x1 x2 x3 x4 u P) : J mX12_leadsOf 4 0 0 post 16 [some (vr (some (g 0))), some (ii (x1)), some (ii (x2)), some (ii (x3)), some (ii (x4)), none, none] [] h := by
  unfold L_X12_leadsOf_16 at H
  refine j_iload (dk dt_X12_leadsOf 11 rfl) rfl ?_
  refine j_aload_n (dk dt_X12_leadsOf 12 rfl) rfl ?_
  refine jm_getA (dk dt_X12_leadsOf 13 rfl) fl_X12_103 rfl (c := 14) rfl m ?_
  refine j_iload_n (dk dt_X12_leadsOf 14 rfl) rfl ?_
  refine j_iconst (v := Int32.ofInt 1) (dk dt_X12_leadsOf 15 rfl) (by decide) ?_
  refine jz_isub (dk dt_X12_leadsOf 16 rfl) ?_
  obtain ⟨p_25, q_25, H⟩ := H
  refine jm_iald (dk dt_X12_leadsOf 17 rfl) rfl rfl m p_25 q_25 ?_
  refine jz_icmp_ge 155 (dk dt_X12_leadsOf 18 rfl) (by decide) r_x4 (m.2.1.1 _ _) H (fun H => ?_) (fun H => ?_)
  · exact j_el (he0 _ _ H m) trivial
  · refine j_iload_n (dk dt_X12_leadsOf 19 rfl) rfl ?_
    refine j_iconst (v := Int32.ofInt 1) (dk dt_X12_leadsOf 20 rfl) (by decide) ?_
    refine jz_isub (dk dt_X12_leadsOf 21 rfl) ?_
    refine j_iload (dk dt_X12_leadsOf 22 rfl) rfl ?_
    refine jz_iadd (dk dt_X12_leadsOf 23 rfl) ?_
    refine j_istore (dk dt_X12_leadsOf 24 rfl) (by decide) ?_
    refine j_aload_n (dk dt_X12_leadsOf 25 rfl) rfl ?_
    refine jm_getA (dk dt_X12_leadsOf 26 rfl) fl_X12_100 rfl (c := 14) rfl m ?_
    refine j_iload (dk dt_X12_leadsOf 27 rfl) rfl ?_
    obtain ⟨p_43, q_43, H⟩ := H
    refine jm_iald (dk dt_X12_leadsOf 28 rfl) rfl rfl m p_43 q_43 ?_
    refine jz_if_lt 50 (dk dt_X12_leadsOf 29 rfl) (by decide) (m.2.1.1 _ _) H (fun H => ?_) (fun H => ?_)
    · refine j_aload_n (dk dt_X12_leadsOf 31 rfl) rfl ?_
      refine jm_getA (dk dt_X12_leadsOf 32 rfl) fl_X12_67 rfl (c := 14) rfl m ?_
      refine j_iload (dk dt_X12_leadsOf 33 rfl) rfl ?_
      obtain ⟨p_56, q_56, H⟩ := H
      refine jm_iald (dk dt_X12_leadsOf 34 rfl) rfl rfl m p_56 q_56 ?_
      refine j_iconst (v := Int32.ofInt 5) (dk dt_X12_leadsOf 35 rfl) (by decide) ?_
      refine jz_icmp_ne 104 (dk dt_X12_leadsOf 36 rfl) (by decide) (m.2.1.1 _ _) (by decide) H (fun H => ?_) (fun H => ?_)
      · refine j_aload_n (dk dt_X12_leadsOf 37 rfl) rfl ?_
        refine jm_getA (dk dt_X12_leadsOf 38 rfl) fl_X12_97 rfl (c := 14) rfl m ?_
        refine j_iload (dk dt_X12_leadsOf 39 rfl) rfl ?_
        obtain ⟨p_67, q_67, H⟩ := H
        refine jm_iald (dk dt_X12_leadsOf 40 rfl) rfl rfl m p_67 q_67 ?_
        refine j_bipush (v := Int32.ofInt 16) (dk dt_X12_leadsOf 41 rfl) (by decide) ?_
        refine jz_iand (dk dt_X12_leadsOf 42 rfl) ?_
        refine jz_if_ne 104 (dk dt_X12_leadsOf 43 rfl) (by decide) (r32_t _) H (fun H => ?_) (fun H => ?_)
        · refine j_aload_n (dk dt_X12_leadsOf 44 rfl) rfl ?_
          refine j_iload (dk dt_X12_leadsOf 45 rfl) rfl ?_
          refine j_iload_n (dk dt_X12_leadsOf 46 rfl) rfl ?_
          refine jz_callV2 (dk dt_X12_leadsOf 47 rfl) vl_X12_582 rfl (T_X12_spotCell (r32_w _) r_x1 m H) m.1.1 rfl (by decide) (Nat.zero_le _) (Nat.zero_le _) (Nat.le_of_ble_eq_true rfl) (fun v_78 h_78 P_78 => ?_)
          obtain ⟨x_78, rfl, r_78, rfl, H⟩ := P_78
          dsimp only [rs]
          refine j_istore (dk dt_X12_leadsOf 48 rfl) (by decide) ?_
          refine j_iload (dk dt_X12_leadsOf 49 rfl) rfl ?_
          refine jz_if_lt 101 (dk dt_X12_leadsOf 50 rfl) (by decide) r_78 H (fun H => ?_) (fun H => ?_)
          · exact j_el (T_X12_leadsOf_101 r_x1 r_x2 r_x3 r_x4 m  hl he0 H) (And.intro rfl (And.intro rfl (And.intro rfl (And.intro rfl (And.intro rfl trivial)))))
          · refine j_aload_n (dk dt_X12_leadsOf 51 rfl) rfl ?_
            refine j_iload_n (dk dt_X12_leadsOf 52 rfl) rfl ?_
            refine j_iload (dk dt_X12_leadsOf 53 rfl) rfl ?_
            refine j_sipush (v := Int32.ofInt 320) (dk dt_X12_leadsOf 54 rfl) (by decide) ?_
            refine j_iload_n (dk dt_X12_leadsOf 55 rfl) rfl ?_
            refine jz_imul (dk dt_X12_leadsOf 56 rfl) ?_
            refine jz_isub (dk dt_X12_leadsOf 57 rfl) ?_
            refine jz_callV2 (dk dt_X12_leadsOf 58 rfl) vl_X12_698 rfl (T_X12_lead r_x2 (r32_w _) m H) m.1.1 rfl (by decide) (Nat.zero_le _) (Nat.zero_le _) (Nat.le_of_ble_eq_true rfl) (fun v_98 h_98 P_98 => ?_)
            obtain ⟨u_98, rfl, m_98, H⟩ := P_98
            dsimp only [rs]
            exact j_el (T_X12_leadsOf_101 r_x1 r_x2 r_x3 r_x4 m_98  hl he0 H) (And.intro rfl (And.intro rfl (And.intro rfl (And.intro rfl (And.intro rfl trivial)))))
        · exact j_el (T_X12_leadsOf_104 r_x1 r_x2 r_x3 r_x4 (r32_w _) m  hl he0 H) (And.intro rfl (And.intro rfl (And.intro rfl (And.intro rfl (And.intro rfl (And.intro rfl trivial))))))
      · exact j_el (T_X12_leadsOf_104 r_x1 r_x2 r_x3 r_x4 (r32_w _) m  hl he0 H) (And.intro rfl (And.intro rfl (And.intro rfl (And.intro rfl (And.intro rfl (And.intro rfl trivial))))))
    · refine j_goto 149 (dk dt_X12_leadsOf 30 rfl) (by decide) ?_
      exact j_el (T_X12_leadsOf_149 r_x1 r_x2 r_x3 r_x4 m  hl he0 H) (And.intro rfl (And.intro rfl (And.intro rfl (And.intro rfl (And.intro rfl trivial)))))
def F_X12_leadsOf_16  (x1 : Int) (x2 : Int) (x3 : Int) (x4 : Int) (u : Mu) (P : Mu → Prop) : Prop :=
  lp (S := Int × Mu) (E := (Mu)) (fun q P_ => L_X12_leadsOf_16 x1 x2 x3 q.1 q.2 P_) (x4, u) (fun (u : Mu) => P u)
theorem T_X12_leadsOf_16  {x1 : Int} {x2 : Int} {x3 : Int} {x4 : Int} {u : Mu} {P : Mu → Prop} {h : Hp} {g : Nat → Nat} (r_x1 : R32 x1) (r_x2 : R32 x2) (r_x3 : R32 x3) (r_x4 : R32 x4) (m : Ms h g u)   (H : F_X12_leadsOf_16 x1 x2 x3 x4 u P) : J mX12_leadsOf 4 0 0 (nx (QMV g P)) 16 [some (vr (some (g 0))), some (ii (x1)), some (ii (x2)), some (ii (x3)), some (ii (x4)), none, none] [] h := by
  unfold F_X12_leadsOf_16 at H
  refine lp_J (G := fun q => ∀ h : Hp, Ms h g (q.2) → R32 (q.1) → J mX12_leadsOf 4 0 0 (nx (QMV g P)) 16 [some (vr (some (g 0))), some (ii (x1)), some (ii (x2)), some (ii (x3)), some (ii ((q.1))), none, none] [] h) (fun q P_ hl_ he_ Hb => ?_) (x4, u) H _ m r_x4
  obtain ⟨x4, u⟩ := q
  intro h m r_x4
  refine U_X12_leadsOf_16 (P := P_) r_x1 r_x2 r_x3 r_x4 m  (fun x4 u h Hp m r_x4 => hl_ (x4, u) Hp h m r_x4) ?_ Hb
  · intro u h Hp m
    have H := he_ _ Hp
    exact j_return (dk dt_X12_leadsOf 85 rfl) rfl ⟨_, rfl, m, H⟩
def F_X12_leadsOf  (x1 : Int) (x2 : Int) (u : Mu) (P : Mu → Prop) : Prop :=
  (0 ≤ w32 (w32 (320 * x1) + x2) ∧ w32 (w32 (320 * x1) + x2) < 39040 ∧ F_X12_leadsOf_16 x1 x2 (mI u 5 (w32 (w32 (320 * x1) + x2))) 0 u P)
theorem T_X12_leadsOf  {x1 : Int} {x2 : Int} {u : Mu} {P : Mu → Prop} {h : Hp} {g : Nat → Nat} (r_x1 : R32 x1) (r_x2 : R32 x2) (m : Ms h g u)  (H : F_X12_leadsOf x1 x2 u P) : Con mX12_leadsOf 4 0 0 [vr (some (g 0)), ii (x1), ii (x2)] h (QMV g P) := by
  refine con_of rfl (Nat.le_of_ble_eq_true rfl) (by decide) ?_
  show J mX12_leadsOf 4 0 0 _ 0 [some (vr (some (g 0))), some (ii (x1)), some (ii (x2)), none, none, none, none] [] h
  unfold F_X12_leadsOf at H
  refine j_aload_n (dk dt_X12_leadsOf 0 rfl) rfl ?_
  refine jm_getA (dk dt_X12_leadsOf 1 rfl) fl_X12_23 rfl (c := 14) rfl m ?_
  refine j_sipush (v := Int32.ofInt 320) (dk dt_X12_leadsOf 2 rfl) (by decide) ?_
  refine j_iload_n (dk dt_X12_leadsOf 3 rfl) rfl ?_
  refine jz_imul (dk dt_X12_leadsOf 4 rfl) ?_
  refine j_iload_n (dk dt_X12_leadsOf 5 rfl) rfl ?_
  refine jz_iadd (dk dt_X12_leadsOf 6 rfl) ?_
  obtain ⟨p_11, q_11, H⟩ := H
  refine jm_iald (dk dt_X12_leadsOf 7 rfl) rfl rfl m p_11 q_11 ?_
  refine j_istore_n (dk dt_X12_leadsOf 8 rfl) (by decide) ?_
  refine j_iconst (v := Int32.ofInt 0) (dk dt_X12_leadsOf 9 rfl) (by decide) ?_
  refine j_istore (dk dt_X12_leadsOf 10 rfl) (by decide) ?_
  exact j_el (T_X12_leadsOf_16 r_x1 r_x2 (m.2.1.1 _ _) (by decide) m   H) (And.intro rfl (And.intro rfl (And.intro rfl (And.intro rfl (And.intro rfl trivial)))))
def F_X12_plainValue_84  (x2 : Int) (u : Mu) (P : Mu → Prop) : Prop :=
  F_X12_store 0 x2 u (fun u_87 => P u_87)
theorem T_X12_plainValue_84  {x2 : Int} {u : Mu} {P : Mu → Prop} {h : Hp} {g : Nat → Nat} (r_x2 : R32 x2) (m : Ms h g u)   (H : F_X12_plainValue_84 x2 u P) : J mX12_plainValue 2 0 0 (nx (QMV g P)) 84 [some (vr (some (g 0))), none, some (ii (x2)), none] [] h := by
  unfold F_X12_plainValue_84 at H
  refine j_aload_n (dk dt_X12_plainValue 53 rfl) rfl ?_
  refine j_iconst (v := Int32.ofInt 0) (dk dt_X12_plainValue 54 rfl) (by decide) ?_
  refine j_iload_n (dk dt_X12_plainValue 55 rfl) rfl ?_
  refine jz_callV2 (dk dt_X12_plainValue 56 rfl) vl_X12_705 rfl (T_X12_store (by decide) r_x2 m H) m.1.1 rfl (by decide) (Nat.zero_le _) (Nat.zero_le _) (Nat.le_of_ble_eq_true rfl) (fun v_87 h_87 P_87 => ?_)
  obtain ⟨u_87, rfl, m_87, H⟩ := P_87
  dsimp only [rs]
  exact j_return (dk dt_X12_plainValue 57 rfl) rfl ⟨_, rfl, m_87, H⟩
def F_X12_plainValue  (x1 : Int) (x2 : Int) (u : Mu) (P : Mu → Prop) : Prop :=
  (if x1 = 0 then (∀ u_15, u_15 = uI u 66 0 0 → (∀ u_22, u_22 = uG u_15 67 0 0 → F_X12_plainValue_84 x2 u_22 P)) else (0 ≤ w32 (x1 - 100000) ∧ w32 (x1 - 100000) < 4200 ∧ (if mI u 20 (w32 (x1 - 100000)) = 2 then (0 ≤ w32 (x1 - 100000) ∧ w32 (x1 - 100000) < 4200 ∧ (0 ≤ w32 (x1 - 100000) ∧ w32 (x1 - 100000) < 4200 ∧ F_X12_text 0 18 (mI u 22 (w32 (x1 - 100000))) (mI u 23 (w32 (x1 - 100000))) u (fun u_54 => F_X12_plainValue_84 x2 u_54 P))) else (∀ u_71, u_71 = uI u 66 0 (mI u 20 (w32 (x1 - 100000))) → (0 ≤ w32 (x1 - 100000) ∧ w32 (x1 - 100000) < 4200 ∧ (∀ u_83, u_83 = uG u_71 67 0 (mG u_71 21 (w32 (x1 - 100000))) → F_X12_plainValue_84 x2 u_83 P))))))
theorem T_X12_plainValue  {x1 : Int} {x2 : Int} {u : Mu} {P : Mu → Prop} {h : Hp} {g : Nat → Nat} (r_x1 : R32 x1) (r_x2 : R32 x2) (m : Ms h g u)  (H : F_X12_plainValue x1 x2 u P) : Con mX12_plainValue 2 0 0 [vr (some (g 0)), ii (x1), ii (x2)] h (QMV g P) := by
  refine con_of rfl (Nat.le_of_ble_eq_true rfl) (by decide) ?_
  show J mX12_plainValue 2 0 0 _ 0 [some (vr (some (g 0))), some (ii (x1)), some (ii (x2)), none] [] h
  unfold F_X12_plainValue at H
  refine j_iload_n (dk dt_X12_plainValue 0 rfl) rfl ?_
  refine j_ldc (v := Int32.ofInt (100000)) (dk dt_X12_plainValue 1 rfl) (by exact kl_X12_240) ?_
  refine jz_isub (dk dt_X12_plainValue 2 rfl) ?_
  refine j_istore_n (dk dt_X12_plainValue 3 rfl) (by decide) ?_
  refine j_iload_n (dk dt_X12_plainValue 4 rfl) rfl ?_
  refine jz_if_ne 26 (dk dt_X12_plainValue 5 rfl) (by decide) r_x1 H (fun H => ?_) (fun H => ?_)
  · refine j_aload_n (dk dt_X12_plainValue 6 rfl) rfl ?_
    refine jm_getA (dk dt_X12_plainValue 7 rfl) fl_X12_126 rfl (c := 14) rfl m ?_
    refine j_iconst (v := Int32.ofInt 0) (dk dt_X12_plainValue 8 rfl) (by decide) ?_
    refine j_iconst (v := Int32.ofInt 0) (dk dt_X12_plainValue 9 rfl) (by decide) ?_
    refine jm_iast (dk dt_X12_plainValue 10 rfl) rfl rfl m (by decide) (by decide) (by decide) (fun h_15 m_15 => ?_)
    replace H := H _ rfl
    refine j_aload_n (dk dt_X12_plainValue 11 rfl) rfl ?_
    refine jm_getA (dk dt_X12_plainValue 12 rfl) fl_X12_129 rfl (c := 15) rfl m_15 ?_
    refine j_iconst (v := Int32.ofInt 0) (dk dt_X12_plainValue 13 rfl) (by decide) ?_
    refine j_lconst (v := Int64.ofInt 0) (dk dt_X12_plainValue 14 rfl) (by decide) ?_
    refine jm_last (dk dt_X12_plainValue 15 rfl) rfl rfl m_15 (by decide) (by decide) (by decide) (fun h_22 m_22 => ?_)
    replace H := H _ rfl
    refine j_goto 84 (dk dt_X12_plainValue 16 rfl) (by decide) ?_
    exact j_el (T_X12_plainValue_84 r_x2 m_22   H) (And.intro rfl (And.intro rfl trivial))
  · refine j_aload_n (dk dt_X12_plainValue 17 rfl) rfl ?_
    refine jm_getA (dk dt_X12_plainValue 18 rfl) fl_X12_53 rfl (c := 14) rfl m ?_
    refine j_iload_n (dk dt_X12_plainValue 19 rfl) rfl ?_
    obtain ⟨p_31, q_31, H⟩ := H
    refine jm_iald (dk dt_X12_plainValue 20 rfl) rfl rfl m p_31 q_31 ?_
    refine j_iconst (v := Int32.ofInt 2) (dk dt_X12_plainValue 21 rfl) (by decide) ?_
    refine jz_icmp_ne 60 (dk dt_X12_plainValue 22 rfl) (by decide) (m.2.1.1 _ _) (by decide) H (fun H => ?_) (fun H => ?_)
    · refine j_aload_n (dk dt_X12_plainValue 23 rfl) rfl ?_
      refine j_iconst (v := Int32.ofInt 0) (dk dt_X12_plainValue 24 rfl) (by decide) ?_
      refine j_aload_n (dk dt_X12_plainValue 25 rfl) rfl ?_
      refine jm_getA (dk dt_X12_plainValue 26 rfl) fl_X12_49 rfl (c := 13) rfl m ?_
      refine j_aload_n (dk dt_X12_plainValue 27 rfl) rfl ?_
      refine jm_getA (dk dt_X12_plainValue 28 rfl) fl_X12_60 rfl (c := 14) rfl m ?_
      refine j_iload_n (dk dt_X12_plainValue 29 rfl) rfl ?_
      obtain ⟨p_47, q_47, H⟩ := H
      refine jm_iald (dk dt_X12_plainValue 30 rfl) rfl rfl m p_47 q_47 ?_
      refine j_aload_n (dk dt_X12_plainValue 31 rfl) rfl ?_
      refine jm_getA (dk dt_X12_plainValue 32 rfl) fl_X12_63 rfl (c := 14) rfl m ?_
      refine j_iload_n (dk dt_X12_plainValue 33 rfl) rfl ?_
      obtain ⟨p_53, q_53, H⟩ := H
      refine jm_iald (dk dt_X12_plainValue 34 rfl) rfl rfl m p_53 q_53 ?_
      refine jz_callV4 (dk dt_X12_plainValue 35 rfl) vl_X12_533 rfl (T_X12_text (by decide) (m.2.1.1 _ _) (m.2.1.1 _ _) m H) m.1.1 rfl (by decide) (Nat.zero_le _) (Nat.zero_le _) (Nat.le_of_ble_eq_true rfl) (fun v_54 h_54 P_54 => ?_)
      obtain ⟨u_54, rfl, m_54, H⟩ := P_54
      dsimp only [rs]
      refine j_goto 84 (dk dt_X12_plainValue 36 rfl) (by decide) ?_
      exact j_el (T_X12_plainValue_84 r_x2 m_54   H) (And.intro rfl (And.intro rfl trivial))
    · refine j_aload_n (dk dt_X12_plainValue 37 rfl) rfl ?_
      refine jm_getA (dk dt_X12_plainValue 38 rfl) fl_X12_126 rfl (c := 14) rfl m ?_
      refine j_iconst (v := Int32.ofInt 0) (dk dt_X12_plainValue 39 rfl) (by decide) ?_
      refine j_aload_n (dk dt_X12_plainValue 40 rfl) rfl ?_
      refine jm_getA (dk dt_X12_plainValue 41 rfl) fl_X12_53 rfl (c := 14) rfl m ?_
      refine j_iload_n (dk dt_X12_plainValue 42 rfl) rfl ?_
      refine jm_iald (dk dt_X12_plainValue 43 rfl) rfl rfl m p_31 q_31 ?_
      refine jm_iast (dk dt_X12_plainValue 44 rfl) rfl rfl m (by decide) (by decide) (m.2.1.1 _ _) (fun h_71 m_71 => ?_)
      replace H := H _ rfl
      refine j_aload_n (dk dt_X12_plainValue 45 rfl) rfl ?_
      refine jm_getA (dk dt_X12_plainValue 46 rfl) fl_X12_129 rfl (c := 15) rfl m_71 ?_
      refine j_iconst (v := Int32.ofInt 0) (dk dt_X12_plainValue 47 rfl) (by decide) ?_
      refine j_aload_n (dk dt_X12_plainValue 48 rfl) rfl ?_
      refine jm_getA (dk dt_X12_plainValue 49 rfl) fl_X12_56 rfl (c := 15) rfl m_71 ?_
      refine j_iload_n (dk dt_X12_plainValue 50 rfl) rfl ?_
      obtain ⟨p_82, q_82, H⟩ := H
      refine jm_lald (dk dt_X12_plainValue 51 rfl) rfl rfl m_71 p_82 q_82 ?_
      refine jm_last (dk dt_X12_plainValue 52 rfl) rfl rfl m_71 (by decide) (by decide) (m_71.2.1.2.1 _ _) (fun h_83 m_83 => ?_)
      replace H := H _ rfl
      exact j_el (T_X12_plainValue_84 r_x2 m_83   H) (And.intro rfl (And.intro rfl trivial))
