/-! ===== the helpers of the law ===== -/
def py (K : Hp → Prop) (l : List String) (th r : Int32) : Option Sv ⊕ String → Hp → Prop := fun o u => K u ∧ (match o with
  | .inl v => th = 0 ∧ v = some (vi r)
  | .inr e => th ≠ 0 ∧ e = l.getD (th.toNatClampNeg - 1) "")
def hpst (K : Hp → Prop) (hm : Hp) (o : Nat) (th r : Int32) : Option Sv → Hp → Prop := fun v u => v = some (vi th) ∧ ∃ uc, K uc ∧ LSt u uc hm o ∧ (th = 0 → hG u o 0 = r.toInt64)
set_option maxRecDepth 20000 in
theorem h_enter {h hc hm : Hp} {x o mc ms d1 : Nat} {K : Hp → Prop} {p0 p1 th r : Int32} (S : LSt h hc hm o) (kx : hK hc x = 12) (hth : th = 0 ∨ th = 1 ∨ th = 2 ∨ th = 3) (con : ConX mX11_enter d1 mc ms [vr (some x), vi p0, vi p1] hc (py K ["java/lang/IndexOutOfBoundsException", "java/lang/IllegalArgumentException", "java/lang/UnsupportedOperationException"] th r)) : ConH mL_enter (d1 + 1) mc ms [vr (some x), vi p0, vi p1, vr (some o)] h (hpst K hm o th r) := by
  refine con_ofH rfl (Nat.le_of_ble_eq_true rfl) ?_
  show J mL_enter (d1 + 1) mc ms _ 0 [some (vr (some x)), some (vi p0), some (vi p1), some (vr (some o)), none] [] h
  refine j_aload_n dL_enter_0 rfl ?_
  refine j_iconst (v := 0) dL_enter_1 (by decide) ?_
  refine j_aload_n dL_enter_2 rfl ?_
  refine j_iload_n dL_enter_3 rfl ?_
  refine j_iload_n dL_enter_4 rfl ?_
  refine j_callX (as := [vi p0, vi p1]) (st := [vi 0, vr (some o)]) dL_enter_5 vl_L_7 (con_frameX con S.1) ((S.1 x (by rw [kx]; decide)).1.trans kx) rfl (Nat.lt_succ_self _) (Nat.le_refl _) (Nat.le_refl _) (Nat.le_of_ble_eq_true rfl) rfl (by decide +kernel) (fun v u p => ?_) (fun E u q p => ?_)
  · obtain ⟨uc, ⟨hK1, h0, rfl⟩, rfl, fr⟩ := p
    subst h0
    dsimp only [rs]
    have S2 := LSt_c S fr
    refine j_i2l dL_enter_8 ?_
    refine j_last 0 dL_enter_9 S2.1.2.2.2.1 rfl (by rw [S2.1.2.2.2.2.1]; decide) (by rw [S2.1.2.2.2.2.1]; decide) ?_
    refine j_goto 25 dL_enter_10 (by decide) ?_
    refine j_iconst (v := 0) dL_enter_25 (by decide) ?_
    exact j_ireturn dL_enter_26 rfl rfl ⟨rfl, uc, hK1, LSt_o S2.1, fun _ => by rw [hG_pG, if_pos ⟨rfl, rfl⟩]⟩
  · obtain ⟨uc, ⟨hK1, h0, rfl⟩, rfl, fr⟩ := p
    have S2 := LSt_c S fr
    rcases hth with rfl | rfl | rfl | rfl
    · exact absurd rfl h0
    · refine ⟨by decide +kernel, 13, by decide +kernel, ?_⟩
      refine j_astore dL_enter_13 (by decide) ?_
      dsimp only [st1, st2, unL, List.set]
      refine j_iconst (v := 1) dL_enter_15 (by decide) ?_
      exact j_ireturn dL_enter_16 rfl rfl ⟨rfl, uc, hK1, S2.1, fun z => absurd z (by decide)⟩
    · refine ⟨by decide +kernel, 17, by decide +kernel, ?_⟩
      refine j_astore dL_enter_17 (by decide) ?_
      dsimp only [st1, st2, unL, List.set]
      refine j_iconst (v := 2) dL_enter_19 (by decide) ?_
      exact j_ireturn dL_enter_20 rfl rfl ⟨rfl, uc, hK1, S2.1, fun z => absurd z (by decide)⟩
    · refine ⟨by decide +kernel, 21, by decide +kernel, ?_⟩
      refine j_astore dL_enter_21 (by decide) ?_
      dsimp only [st1, st2, unL, List.set]
      refine j_iconst (v := 3) dL_enter_23 (by decide) ?_
      exact j_ireturn dL_enter_24 rfl rfl ⟨rfl, uc, hK1, S2.1, fun z => absurd z (by decide)⟩

set_option maxRecDepth 20000 in
theorem h_erase {h hc hm : Hp} {x o mc ms d1 : Nat} {K : Hp → Prop} {p0 p1 p2 p3 th r : Int32} (S : LSt h hc hm o) (kx : hK hc x = 12) (hth : th = 0 ∨ th = 1 ∨ th = 2) (con : ConX mX11_erase d1 mc ms [vr (some x), vi p0, vi p1, vi p2, vi p3] hc (py K ["java/lang/IndexOutOfBoundsException", "java/lang/IllegalArgumentException"] th r)) : ConH mL_erase (d1 + 1) mc ms [vr (some x), vi p0, vi p1, vi p2, vi p3, vr (some o)] h (hpst K hm o th r) := by
  refine con_ofH rfl (Nat.le_of_ble_eq_true rfl) ?_
  show J mL_erase (d1 + 1) mc ms _ 0 [some (vr (some x)), some (vi p0), some (vi p1), some (vi p2), some (vi p3), some (vr (some o)), none] [] h
  refine j_aload dL_erase_0 rfl ?_
  refine j_iconst (v := 0) dL_erase_2 (by decide) ?_
  refine j_aload_n dL_erase_3 rfl ?_
  refine j_iload_n dL_erase_4 rfl ?_
  refine j_iload_n dL_erase_5 rfl ?_
  refine j_iload_n dL_erase_6 rfl ?_
  refine j_iload dL_erase_7 rfl ?_
  refine j_callX (as := [vi p0, vi p1, vi p2, vi p3]) (st := [vi 0, vr (some o)]) dL_erase_9 vl_L_19 (con_frameX con S.1) ((S.1 x (by rw [kx]; decide)).1.trans kx) rfl (Nat.lt_succ_self _) (Nat.le_refl _) (Nat.le_refl _) (Nat.le_of_ble_eq_true rfl) rfl (by decide +kernel) (fun v u p => ?_) (fun E u q p => ?_)
  · obtain ⟨uc, ⟨hK1, h0, rfl⟩, rfl, fr⟩ := p
    subst h0
    dsimp only [rs]
    have S2 := LSt_c S fr
    refine j_i2l dL_erase_12 ?_
    refine j_last 0 dL_erase_13 S2.1.2.2.2.1 rfl (by rw [S2.1.2.2.2.2.1]; decide) (by rw [S2.1.2.2.2.2.1]; decide) ?_
    refine j_goto 25 dL_erase_14 (by decide) ?_
    refine j_iconst (v := 0) dL_erase_25 (by decide) ?_
    exact j_ireturn dL_erase_26 rfl rfl ⟨rfl, uc, hK1, LSt_o S2.1, fun _ => by rw [hG_pG, if_pos ⟨rfl, rfl⟩]⟩
  · obtain ⟨uc, ⟨hK1, h0, rfl⟩, rfl, fr⟩ := p
    have S2 := LSt_c S fr
    rcases hth with rfl | rfl | rfl
    · exact absurd rfl h0
    · refine ⟨by decide +kernel, 17, by decide +kernel, ?_⟩
      refine j_astore dL_erase_17 (by decide) ?_
      dsimp only [st1, st2, unL, List.set]
      refine j_iconst (v := 1) dL_erase_19 (by decide) ?_
      exact j_ireturn dL_erase_20 rfl rfl ⟨rfl, uc, hK1, S2.1, fun z => absurd z (by decide)⟩
    · refine ⟨by decide +kernel, 21, by decide +kernel, ?_⟩
      refine j_astore dL_erase_21 (by decide) ?_
      dsimp only [st1, st2, unL, List.set]
      refine j_iconst (v := 2) dL_erase_23 (by decide) ?_
      exact j_ireturn dL_erase_24 rfl rfl ⟨rfl, uc, hK1, S2.1, fun z => absurd z (by decide)⟩

set_option maxRecDepth 20000 in
theorem h_insert {h hc hm : Hp} {x o mc ms d1 : Nat} {K : Hp → Prop} {p0 p1 th r : Int32} (S : LSt h hc hm o) (kx : hK hc x = 12) (hth : th = 0 ∨ th = 1 ∨ th = 2 ∨ th = 3) (con : ConX mX11_insert d1 mc ms [vr (some x), vi p0, vi p1] hc (py K ["java/lang/IllegalArgumentException", "java/lang/IndexOutOfBoundsException", "java/lang/IllegalStateException"] th r)) : ConH mL_insert (d1 + 1) mc ms [vr (some x), vi p0, vi p1, vr (some o)] h (hpst K hm o th r) := by
  refine con_ofH rfl (Nat.le_of_ble_eq_true rfl) ?_
  show J mL_insert (d1 + 1) mc ms _ 0 [some (vr (some x)), some (vi p0), some (vi p1), some (vr (some o)), none] [] h
  refine j_aload_n dL_insert_0 rfl ?_
  refine j_iconst (v := 0) dL_insert_1 (by decide) ?_
  refine j_aload_n dL_insert_2 rfl ?_
  refine j_iload_n dL_insert_3 rfl ?_
  refine j_iload_n dL_insert_4 rfl ?_
  refine j_callX (as := [vi p0, vi p1]) (st := [vi 0, vr (some o)]) dL_insert_5 vl_L_23 (con_frameX con S.1) ((S.1 x (by rw [kx]; decide)).1.trans kx) rfl (Nat.lt_succ_self _) (Nat.le_refl _) (Nat.le_refl _) (Nat.le_of_ble_eq_true rfl) rfl (by decide +kernel) (fun v u p => ?_) (fun E u q p => ?_)
  · obtain ⟨uc, ⟨hK1, h0, rfl⟩, rfl, fr⟩ := p
    subst h0
    dsimp only [rs]
    have S2 := LSt_c S fr
    refine j_i2l dL_insert_8 ?_
    refine j_last 0 dL_insert_9 S2.1.2.2.2.1 rfl (by rw [S2.1.2.2.2.2.1]; decide) (by rw [S2.1.2.2.2.2.1]; decide) ?_
    refine j_goto 25 dL_insert_10 (by decide) ?_
    refine j_iconst (v := 0) dL_insert_25 (by decide) ?_
    exact j_ireturn dL_insert_26 rfl rfl ⟨rfl, uc, hK1, LSt_o S2.1, fun _ => by rw [hG_pG, if_pos ⟨rfl, rfl⟩]⟩
  · obtain ⟨uc, ⟨hK1, h0, rfl⟩, rfl, fr⟩ := p
    have S2 := LSt_c S fr
    rcases hth with rfl | rfl | rfl | rfl
    · exact absurd rfl h0
    · refine ⟨by decide +kernel, 13, by decide +kernel, ?_⟩
      refine j_astore dL_insert_13 (by decide) ?_
      dsimp only [st1, st2, unL, List.set]
      refine j_iconst (v := 1) dL_insert_15 (by decide) ?_
      exact j_ireturn dL_insert_16 rfl rfl ⟨rfl, uc, hK1, S2.1, fun z => absurd z (by decide)⟩
    · refine ⟨by decide +kernel, 17, by decide +kernel, ?_⟩
      refine j_astore dL_insert_17 (by decide) ?_
      dsimp only [st1, st2, unL, List.set]
      refine j_iconst (v := 2) dL_insert_19 (by decide) ?_
      exact j_ireturn dL_insert_20 rfl rfl ⟨rfl, uc, hK1, S2.1, fun z => absurd z (by decide)⟩
    · refine ⟨by decide +kernel, 21, by decide +kernel, ?_⟩
      refine j_astore dL_insert_21 (by decide) ?_
      dsimp only [st1, st2, unL, List.set]
      refine j_iconst (v := 3) dL_insert_23 (by decide) ?_
      exact j_ireturn dL_insert_24 rfl rfl ⟨rfl, uc, hK1, S2.1, fun z => absurd z (by decide)⟩

set_option maxRecDepth 20000 in
theorem h_remove {h hc hm : Hp} {x o mc ms d1 : Nat} {K : Hp → Prop} {p0 p1 th r : Int32} (S : LSt h hc hm o) (kx : hK hc x = 12) (hth : th = 0 ∨ th = 1 ∨ th = 2 ∨ th = 3) (con : ConX mX11_remove d1 mc ms [vr (some x), vi p0, vi p1] hc (py K ["java/lang/IllegalArgumentException", "java/lang/IndexOutOfBoundsException", "java/lang/IllegalStateException"] th r)) : ConH mL_remove (d1 + 1) mc ms [vr (some x), vi p0, vi p1, vr (some o)] h (hpst K hm o th r) := by
  refine con_ofH rfl (Nat.le_of_ble_eq_true rfl) ?_
  show J mL_remove (d1 + 1) mc ms _ 0 [some (vr (some x)), some (vi p0), some (vi p1), some (vr (some o)), none] [] h
  refine j_aload_n dL_remove_0 rfl ?_
  refine j_iconst (v := 0) dL_remove_1 (by decide) ?_
  refine j_aload_n dL_remove_2 rfl ?_
  refine j_iload_n dL_remove_3 rfl ?_
  refine j_iload_n dL_remove_4 rfl ?_
  refine j_callX (as := [vi p0, vi p1]) (st := [vi 0, vr (some o)]) dL_remove_5 vl_L_28 (con_frameX con S.1) ((S.1 x (by rw [kx]; decide)).1.trans kx) rfl (Nat.lt_succ_self _) (Nat.le_refl _) (Nat.le_refl _) (Nat.le_of_ble_eq_true rfl) rfl (by decide +kernel) (fun v u p => ?_) (fun E u q p => ?_)
  · obtain ⟨uc, ⟨hK1, h0, rfl⟩, rfl, fr⟩ := p
    subst h0
    dsimp only [rs]
    have S2 := LSt_c S fr
    refine j_i2l dL_remove_8 ?_
    refine j_last 0 dL_remove_9 S2.1.2.2.2.1 rfl (by rw [S2.1.2.2.2.2.1]; decide) (by rw [S2.1.2.2.2.2.1]; decide) ?_
    refine j_goto 25 dL_remove_10 (by decide) ?_
    refine j_iconst (v := 0) dL_remove_25 (by decide) ?_
    exact j_ireturn dL_remove_26 rfl rfl ⟨rfl, uc, hK1, LSt_o S2.1, fun _ => by rw [hG_pG, if_pos ⟨rfl, rfl⟩]⟩
  · obtain ⟨uc, ⟨hK1, h0, rfl⟩, rfl, fr⟩ := p
    have S2 := LSt_c S fr
    rcases hth with rfl | rfl | rfl | rfl
    · exact absurd rfl h0
    · refine ⟨by decide +kernel, 13, by decide +kernel, ?_⟩
      refine j_astore dL_remove_13 (by decide) ?_
      dsimp only [st1, st2, unL, List.set]
      refine j_iconst (v := 1) dL_remove_15 (by decide) ?_
      exact j_ireturn dL_remove_16 rfl rfl ⟨rfl, uc, hK1, S2.1, fun z => absurd z (by decide)⟩
    · refine ⟨by decide +kernel, 17, by decide +kernel, ?_⟩
      refine j_astore dL_remove_17 (by decide) ?_
      dsimp only [st1, st2, unL, List.set]
      refine j_iconst (v := 2) dL_remove_19 (by decide) ?_
      exact j_ireturn dL_remove_20 rfl rfl ⟨rfl, uc, hK1, S2.1, fun z => absurd z (by decide)⟩
    · refine ⟨by decide +kernel, 21, by decide +kernel, ?_⟩
      refine j_astore dL_remove_21 (by decide) ?_
      dsimp only [st1, st2, unL, List.set]
      refine j_iconst (v := 3) dL_remove_23 (by decide) ?_
      exact j_ireturn dL_remove_24 rfl rfl ⟨rfl, uc, hK1, S2.1, fun z => absurd z (by decide)⟩

set_option maxRecDepth 20000 in
theorem h_move {h hc hm : Hp} {x o mc ms d1 : Nat} {K : Hp → Prop} {p0 p1 p2 th r : Int32} (S : LSt h hc hm o) (kx : hK hc x = 12) (hth : th = 0 ∨ th = 1 ∨ th = 2) (con : ConX mX11_move d1 mc ms [vr (some x), vi p0, vi p1, vi p2] hc (py K ["java/lang/IllegalArgumentException", "java/lang/IndexOutOfBoundsException"] th r)) : ConH mL_move (d1 + 1) mc ms [vr (some x), vi p0, vi p1, vi p2, vr (some o)] h (hpst K hm o th r) := by
  refine con_ofH rfl (Nat.le_of_ble_eq_true rfl) ?_
  show J mL_move (d1 + 1) mc ms _ 0 [some (vr (some x)), some (vi p0), some (vi p1), some (vi p2), some (vr (some o)), none] [] h
  refine j_aload dL_move_0 rfl ?_
  refine j_iconst (v := 0) dL_move_2 (by decide) ?_
  refine j_aload_n dL_move_3 rfl ?_
  refine j_iload_n dL_move_4 rfl ?_
  refine j_iload_n dL_move_5 rfl ?_
  refine j_iload_n dL_move_6 rfl ?_
  refine j_callX (as := [vi p0, vi p1, vi p2]) (st := [vi 0, vr (some o)]) dL_move_7 vl_L_31 (con_frameX con S.1) ((S.1 x (by rw [kx]; decide)).1.trans kx) rfl (Nat.lt_succ_self _) (Nat.le_refl _) (Nat.le_refl _) (Nat.le_of_ble_eq_true rfl) rfl (by decide +kernel) (fun v u p => ?_) (fun E u q p => ?_)
  · obtain ⟨uc, ⟨hK1, h0, rfl⟩, rfl, fr⟩ := p
    subst h0
    dsimp only [rs]
    have S2 := LSt_c S fr
    refine j_i2l dL_move_10 ?_
    refine j_last 0 dL_move_11 S2.1.2.2.2.1 rfl (by rw [S2.1.2.2.2.2.1]; decide) (by rw [S2.1.2.2.2.2.1]; decide) ?_
    refine j_goto 23 dL_move_12 (by decide) ?_
    refine j_iconst (v := 0) dL_move_23 (by decide) ?_
    exact j_ireturn dL_move_24 rfl rfl ⟨rfl, uc, hK1, LSt_o S2.1, fun _ => by rw [hG_pG, if_pos ⟨rfl, rfl⟩]⟩
  · obtain ⟨uc, ⟨hK1, h0, rfl⟩, rfl, fr⟩ := p
    have S2 := LSt_c S fr
    rcases hth with rfl | rfl | rfl
    · exact absurd rfl h0
    · refine ⟨by decide +kernel, 15, by decide +kernel, ?_⟩
      refine j_astore dL_move_15 (by decide) ?_
      dsimp only [st1, st2, unL, List.set]
      refine j_iconst (v := 1) dL_move_17 (by decide) ?_
      exact j_ireturn dL_move_18 rfl rfl ⟨rfl, uc, hK1, S2.1, fun z => absurd z (by decide)⟩
    · refine ⟨by decide +kernel, 19, by decide +kernel, ?_⟩
      refine j_astore dL_move_19 (by decide) ?_
      dsimp only [st1, st2, unL, List.set]
      refine j_iconst (v := 2) dL_move_21 (by decide) ?_
      exact j_ireturn dL_move_22 rfl rfl ⟨rfl, uc, hK1, S2.1, fun z => absurd z (by decide)⟩

set_option maxRecDepth 20000 in
theorem h_copy {h hc hm : Hp} {x o mc ms d1 : Nat} {K : Hp → Prop} {p0 p1 p2 p3 p4 p5 th r : Int32} (S : LSt h hc hm o) (kx : hK hc x = 12) (hth : th = 0 ∨ th = 1 ∨ th = 2 ∨ th = 3) (con : ConX mX11_copy d1 mc ms [vr (some x), vi p0, vi p1, vi p2, vi p3, vi p4, vi p5] hc (py K ["java/lang/IndexOutOfBoundsException", "java/lang/IllegalArgumentException", "java/lang/UnsupportedOperationException"] th r)) : ConH mL_copy (d1 + 1) mc ms [vr (some x), vi p0, vi p1, vi p2, vi p3, vi p4, vi p5, vr (some o)] h (hpst K hm o th r) := by
  refine con_ofH rfl (Nat.le_of_ble_eq_true rfl) ?_
  show J mL_copy (d1 + 1) mc ms _ 0 [some (vr (some x)), some (vi p0), some (vi p1), some (vi p2), some (vi p3), some (vi p4), some (vi p5), some (vr (some o)), none] [] h
  refine j_aload dL_copy_0 rfl ?_
  refine j_iconst (v := 0) dL_copy_2 (by decide) ?_
  refine j_aload_n dL_copy_3 rfl ?_
  refine j_iload_n dL_copy_4 rfl ?_
  refine j_iload_n dL_copy_5 rfl ?_
  refine j_iload_n dL_copy_6 rfl ?_
  refine j_iload dL_copy_7 rfl ?_
  refine j_iload dL_copy_9 rfl ?_
  refine j_iload dL_copy_11 rfl ?_
  refine j_callX (as := [vi p0, vi p1, vi p2, vi p3, vi p4, vi p5]) (st := [vi 0, vr (some o)]) dL_copy_13 vl_L_35 (con_frameX con S.1) ((S.1 x (by rw [kx]; decide)).1.trans kx) rfl (Nat.lt_succ_self _) (Nat.le_refl _) (Nat.le_refl _) (Nat.le_of_ble_eq_true rfl) rfl (by decide +kernel) (fun v u p => ?_) (fun E u q p => ?_)
  · obtain ⟨uc, ⟨hK1, h0, rfl⟩, rfl, fr⟩ := p
    subst h0
    dsimp only [rs]
    have S2 := LSt_c S fr
    refine j_i2l dL_copy_16 ?_
    refine j_last 0 dL_copy_17 S2.1.2.2.2.1 rfl (by rw [S2.1.2.2.2.2.1]; decide) (by rw [S2.1.2.2.2.2.1]; decide) ?_
    refine j_goto 33 dL_copy_18 (by decide) ?_
    refine j_iconst (v := 0) dL_copy_33 (by decide) ?_
    exact j_ireturn dL_copy_34 rfl rfl ⟨rfl, uc, hK1, LSt_o S2.1, fun _ => by rw [hG_pG, if_pos ⟨rfl, rfl⟩]⟩
  · obtain ⟨uc, ⟨hK1, h0, rfl⟩, rfl, fr⟩ := p
    have S2 := LSt_c S fr
    rcases hth with rfl | rfl | rfl | rfl
    · exact absurd rfl h0
    · refine ⟨by decide +kernel, 21, by decide +kernel, ?_⟩
      refine j_astore dL_copy_21 (by decide) ?_
      dsimp only [st1, st2, unL, List.set]
      refine j_iconst (v := 1) dL_copy_23 (by decide) ?_
      exact j_ireturn dL_copy_24 rfl rfl ⟨rfl, uc, hK1, S2.1, fun z => absurd z (by decide)⟩
    · refine ⟨by decide +kernel, 25, by decide +kernel, ?_⟩
      refine j_astore dL_copy_25 (by decide) ?_
      dsimp only [st1, st2, unL, List.set]
      refine j_iconst (v := 2) dL_copy_27 (by decide) ?_
      exact j_ireturn dL_copy_28 rfl rfl ⟨rfl, uc, hK1, S2.1, fun z => absurd z (by decide)⟩
    · refine ⟨by decide +kernel, 29, by decide +kernel, ?_⟩
      refine j_astore dL_copy_29 (by decide) ?_
      dsimp only [st1, st2, unL, List.set]
      refine j_iconst (v := 3) dL_copy_31 (by decide) ?_
      exact j_ireturn dL_copy_32 rfl rfl ⟨rfl, uc, hK1, S2.1, fun z => absurd z (by decide)⟩

set_option maxRecDepth 20000 in
theorem h_sort {h hc hm : Hp} {x o mc ms d1 : Nat} {K : Hp → Prop} {p0 p1 p2 p3 th r : Int32} (S : LSt h hc hm o) (kx : hK hc x = 12) (hth : th = 0 ∨ th = 1 ∨ th = 2) (con : ConX mX11_sort d1 mc ms [vr (some x), vi p0, vi p1, vi p2, vi p3] hc (py K ["java/lang/IndexOutOfBoundsException", "java/lang/IllegalArgumentException"] th r)) : ConH mL_sort (d1 + 1) mc ms [vr (some x), vi p0, vi p1, vi p2, vi p3, vr (some o)] h (hpst K hm o th r) := by
  refine con_ofH rfl (Nat.le_of_ble_eq_true rfl) ?_
  show J mL_sort (d1 + 1) mc ms _ 0 [some (vr (some x)), some (vi p0), some (vi p1), some (vi p2), some (vi p3), some (vr (some o)), none] [] h
  refine j_aload dL_sort_0 rfl ?_
  refine j_iconst (v := 0) dL_sort_2 (by decide) ?_
  refine j_aload_n dL_sort_3 rfl ?_
  refine j_iload_n dL_sort_4 rfl ?_
  refine j_iload_n dL_sort_5 rfl ?_
  refine j_iload_n dL_sort_6 rfl ?_
  refine j_iload dL_sort_7 rfl ?_
  refine j_callX (as := [vi p0, vi p1, vi p2, vi p3]) (st := [vi 0, vr (some o)]) dL_sort_9 vl_L_39 (con_frameX con S.1) ((S.1 x (by rw [kx]; decide)).1.trans kx) rfl (Nat.lt_succ_self _) (Nat.le_refl _) (Nat.le_refl _) (Nat.le_of_ble_eq_true rfl) rfl (by decide +kernel) (fun v u p => ?_) (fun E u q p => ?_)
  · obtain ⟨uc, ⟨hK1, h0, rfl⟩, rfl, fr⟩ := p
    subst h0
    dsimp only [rs]
    have S2 := LSt_c S fr
    refine j_i2l dL_sort_12 ?_
    refine j_last 0 dL_sort_13 S2.1.2.2.2.1 rfl (by rw [S2.1.2.2.2.2.1]; decide) (by rw [S2.1.2.2.2.2.1]; decide) ?_
    refine j_goto 25 dL_sort_14 (by decide) ?_
    refine j_iconst (v := 0) dL_sort_25 (by decide) ?_
    exact j_ireturn dL_sort_26 rfl rfl ⟨rfl, uc, hK1, LSt_o S2.1, fun _ => by rw [hG_pG, if_pos ⟨rfl, rfl⟩]⟩
  · obtain ⟨uc, ⟨hK1, h0, rfl⟩, rfl, fr⟩ := p
    have S2 := LSt_c S fr
    rcases hth with rfl | rfl | rfl
    · exact absurd rfl h0
    · refine ⟨by decide +kernel, 17, by decide +kernel, ?_⟩
      refine j_astore dL_sort_17 (by decide) ?_
      dsimp only [st1, st2, unL, List.set]
      refine j_iconst (v := 1) dL_sort_19 (by decide) ?_
      exact j_ireturn dL_sort_20 rfl rfl ⟨rfl, uc, hK1, S2.1, fun z => absurd z (by decide)⟩
    · refine ⟨by decide +kernel, 21, by decide +kernel, ?_⟩
      refine j_astore dL_sort_21 (by decide) ?_
      dsimp only [st1, st2, unL, List.set]
      refine j_iconst (v := 2) dL_sort_23 (by decide) ?_
      exact j_ireturn dL_sort_24 rfl rfl ⟨rfl, uc, hK1, S2.1, fun z => absurd z (by decide)⟩

set_option maxRecDepth 20000 in
theorem h_undo {h hc hm : Hp} {x o mc ms d1 : Nat} {K : Hp → Prop} {th r : Int32} (S : LSt h hc hm o) (kx : hK hc x = 12) (hth : th = 0 ∨ th = 1) (con : ConX mX11_undo d1 mc ms [vr (some x)] hc (py K ["java/util/NoSuchElementException"] th r)) : ConH mL_undo (d1 + 1) mc ms [vr (some x), vr (some o)] h (hpst K hm o th r) := by
  refine con_ofH rfl (Nat.le_of_ble_eq_true rfl) ?_
  show J mL_undo (d1 + 1) mc ms _ 0 [some (vr (some x)), some (vr (some o)), none] [] h
  refine j_aload_n dL_undo_0 rfl ?_
  refine j_iconst (v := 0) dL_undo_1 (by decide) ?_
  refine j_aload_n dL_undo_2 rfl ?_
  refine j_callX (as := []) (st := [vi 0, vr (some o)]) dL_undo_3 vl_L_43 (con_frameX con S.1) ((S.1 x (by rw [kx]; decide)).1.trans kx) rfl (Nat.lt_succ_self _) (Nat.le_refl _) (Nat.le_refl _) (Nat.le_of_ble_eq_true rfl) rfl (by decide +kernel) (fun v u p => ?_) (fun E u q p => ?_)
  · obtain ⟨uc, ⟨hK1, h0, rfl⟩, rfl, fr⟩ := p
    subst h0
    dsimp only [rs]
    have S2 := LSt_c S fr
    refine j_i2l dL_undo_6 ?_
    refine j_last 0 dL_undo_7 S2.1.2.2.2.1 rfl (by rw [S2.1.2.2.2.2.1]; decide) (by rw [S2.1.2.2.2.2.1]; decide) ?_
    refine j_goto 14 dL_undo_8 (by decide) ?_
    refine j_iconst (v := 0) dL_undo_14 (by decide) ?_
    exact j_ireturn dL_undo_15 rfl rfl ⟨rfl, uc, hK1, LSt_o S2.1, fun _ => by rw [hG_pG, if_pos ⟨rfl, rfl⟩]⟩
  · obtain ⟨uc, ⟨hK1, h0, rfl⟩, rfl, fr⟩ := p
    have S2 := LSt_c S fr
    rcases hth with rfl | rfl
    · exact absurd rfl h0
    · refine ⟨by decide +kernel, 11, by decide +kernel, ?_⟩
      refine j_astore_n dL_undo_11 (by decide) ?_
      dsimp only [st1, st2, unL, List.set]
      refine j_iconst (v := 1) dL_undo_12 (by decide) ?_
      exact j_ireturn dL_undo_13 rfl rfl ⟨rfl, uc, hK1, S2.1, fun z => absurd z (by decide)⟩

set_option maxRecDepth 20000 in
theorem h_redo {h hc hm : Hp} {x o mc ms d1 : Nat} {K : Hp → Prop} {th r : Int32} (S : LSt h hc hm o) (kx : hK hc x = 12) (hth : th = 0 ∨ th = 1) (con : ConX mX11_redo d1 mc ms [vr (some x)] hc (py K ["java/util/NoSuchElementException"] th r)) : ConH mL_redo (d1 + 1) mc ms [vr (some x), vr (some o)] h (hpst K hm o th r) := by
  refine con_ofH rfl (Nat.le_of_ble_eq_true rfl) ?_
  show J mL_redo (d1 + 1) mc ms _ 0 [some (vr (some x)), some (vr (some o)), none] [] h
  refine j_aload_n dL_redo_0 rfl ?_
  refine j_iconst (v := 0) dL_redo_1 (by decide) ?_
  refine j_aload_n dL_redo_2 rfl ?_
  refine j_callX (as := []) (st := [vi 0, vr (some o)]) dL_redo_3 vl_L_49 (con_frameX con S.1) ((S.1 x (by rw [kx]; decide)).1.trans kx) rfl (Nat.lt_succ_self _) (Nat.le_refl _) (Nat.le_refl _) (Nat.le_of_ble_eq_true rfl) rfl (by decide +kernel) (fun v u p => ?_) (fun E u q p => ?_)
  · obtain ⟨uc, ⟨hK1, h0, rfl⟩, rfl, fr⟩ := p
    subst h0
    dsimp only [rs]
    have S2 := LSt_c S fr
    refine j_i2l dL_redo_6 ?_
    refine j_last 0 dL_redo_7 S2.1.2.2.2.1 rfl (by rw [S2.1.2.2.2.2.1]; decide) (by rw [S2.1.2.2.2.2.1]; decide) ?_
    refine j_goto 14 dL_redo_8 (by decide) ?_
    refine j_iconst (v := 0) dL_redo_14 (by decide) ?_
    exact j_ireturn dL_redo_15 rfl rfl ⟨rfl, uc, hK1, LSt_o S2.1, fun _ => by rw [hG_pG, if_pos ⟨rfl, rfl⟩]⟩
  · obtain ⟨uc, ⟨hK1, h0, rfl⟩, rfl, fr⟩ := p
    have S2 := LSt_c S fr
    rcases hth with rfl | rfl
    · exact absurd rfl h0
    · refine ⟨by decide +kernel, 11, by decide +kernel, ?_⟩
      refine j_astore_n dL_redo_11 (by decide) ?_
      dsimp only [st1, st2, unL, List.set]
      refine j_iconst (v := 1) dL_redo_12 (by decide) ?_
      exact j_ireturn dL_redo_13 rfl rfl ⟨rfl, uc, hK1, S2.1, fun z => absurd z (by decide)⟩

set_option maxRecDepth 20000 in
theorem h_commit {h hc hm : Hp} {x o mc ms d1 : Nat} {K : Hp → Prop} {th r : Int32} (S : LSt h hc hm o) (kx : hK hc x = 12) (hth : th = 0 ∨ th = 1 ∨ th = 2) (con : ConX mX11_commit d1 mc ms [vr (some x)] hc (py K ["java/lang/IllegalStateException", "java/lang/UnsupportedOperationException"] th r)) : ConH mL_commit (d1 + 1) mc ms [vr (some x), vr (some o)] h (hpst K hm o th r) := by
  refine con_ofH rfl (Nat.le_of_ble_eq_true rfl) ?_
  show J mL_commit (d1 + 1) mc ms _ 0 [some (vr (some x)), some (vr (some o)), none] [] h
  refine j_aload_n dL_commit_0 rfl ?_
  refine j_iconst (v := 0) dL_commit_1 (by decide) ?_
  refine j_aload_n dL_commit_2 rfl ?_
  refine j_callX (as := []) (st := [vi 0, vr (some o)]) dL_commit_3 vl_L_52 (con_frameX con S.1) ((S.1 x (by rw [kx]; decide)).1.trans kx) rfl (Nat.lt_succ_self _) (Nat.le_refl _) (Nat.le_refl _) (Nat.le_of_ble_eq_true rfl) rfl (by decide +kernel) (fun v u p => ?_) (fun E u q p => ?_)
  · obtain ⟨uc, ⟨hK1, h0, rfl⟩, rfl, fr⟩ := p
    subst h0
    dsimp only [rs]
    have S2 := LSt_c S fr
    refine j_i2l dL_commit_6 ?_
    refine j_last 0 dL_commit_7 S2.1.2.2.2.1 rfl (by rw [S2.1.2.2.2.2.1]; decide) (by rw [S2.1.2.2.2.2.1]; decide) ?_
    refine j_goto 17 dL_commit_8 (by decide) ?_
    refine j_iconst (v := 0) dL_commit_17 (by decide) ?_
    exact j_ireturn dL_commit_18 rfl rfl ⟨rfl, uc, hK1, LSt_o S2.1, fun _ => by rw [hG_pG, if_pos ⟨rfl, rfl⟩]⟩
  · obtain ⟨uc, ⟨hK1, h0, rfl⟩, rfl, fr⟩ := p
    have S2 := LSt_c S fr
    rcases hth with rfl | rfl | rfl
    · exact absurd rfl h0
    · refine ⟨by decide +kernel, 11, by decide +kernel, ?_⟩
      refine j_astore_n dL_commit_11 (by decide) ?_
      dsimp only [st1, st2, unL, List.set]
      refine j_iconst (v := 1) dL_commit_12 (by decide) ?_
      exact j_ireturn dL_commit_13 rfl rfl ⟨rfl, uc, hK1, S2.1, fun z => absurd z (by decide)⟩
    · refine ⟨by decide +kernel, 14, by decide +kernel, ?_⟩
      refine j_astore_n dL_commit_14 (by decide) ?_
      dsimp only [st1, st2, unL, List.set]
      refine j_iconst (v := 2) dL_commit_15 (by decide) ?_
      exact j_ireturn dL_commit_16 rfl rfl ⟨rfl, uc, hK1, S2.1, fun z => absurd z (by decide)⟩

set_option maxRecDepth 20000 in
theorem h_branch {h hc hm : Hp} {x o mc ms d1 : Nat} {K : Hp → Prop} {p0 th r : Int32} (S : LSt h hc hm o) (kx : hK hc x = 12) (hth : th = 0 ∨ th = 1 ∨ th = 2) (con : ConX mX11_branch d1 mc ms [vr (some x), vi p0] hc (py K ["java/lang/IndexOutOfBoundsException", "java/lang/IllegalStateException"] th r)) : ConH mL_branch (d1 + 1) mc ms [vr (some x), vi p0, vr (some o)] h (hpst K hm o th r) := by
  refine con_ofH rfl (Nat.le_of_ble_eq_true rfl) ?_
  show J mL_branch (d1 + 1) mc ms _ 0 [some (vr (some x)), some (vi p0), some (vr (some o)), none] [] h
  refine j_aload_n dL_branch_0 rfl ?_
  refine j_iconst (v := 0) dL_branch_1 (by decide) ?_
  refine j_aload_n dL_branch_2 rfl ?_
  refine j_iload_n dL_branch_3 rfl ?_
  refine j_callX (as := [vi p0]) (st := [vi 0, vr (some o)]) dL_branch_4 vl_L_55 (con_frameX con S.1) ((S.1 x (by rw [kx]; decide)).1.trans kx) rfl (Nat.lt_succ_self _) (Nat.le_refl _) (Nat.le_refl _) (Nat.le_of_ble_eq_true rfl) rfl (by decide +kernel) (fun v u p => ?_) (fun E u q p => ?_)
  · obtain ⟨uc, ⟨hK1, h0, rfl⟩, rfl, fr⟩ := p
    subst h0
    dsimp only [rs]
    have S2 := LSt_c S fr
    refine j_i2l dL_branch_7 ?_
    refine j_last 0 dL_branch_8 S2.1.2.2.2.1 rfl (by rw [S2.1.2.2.2.2.1]; decide) (by rw [S2.1.2.2.2.2.1]; decide) ?_
    refine j_goto 18 dL_branch_9 (by decide) ?_
    refine j_iconst (v := 0) dL_branch_18 (by decide) ?_
    exact j_ireturn dL_branch_19 rfl rfl ⟨rfl, uc, hK1, LSt_o S2.1, fun _ => by rw [hG_pG, if_pos ⟨rfl, rfl⟩]⟩
  · obtain ⟨uc, ⟨hK1, h0, rfl⟩, rfl, fr⟩ := p
    have S2 := LSt_c S fr
    rcases hth with rfl | rfl | rfl
    · exact absurd rfl h0
    · refine ⟨by decide +kernel, 12, by decide +kernel, ?_⟩
      refine j_astore_n dL_branch_12 (by decide) ?_
      dsimp only [st1, st2, unL, List.set]
      refine j_iconst (v := 1) dL_branch_13 (by decide) ?_
      exact j_ireturn dL_branch_14 rfl rfl ⟨rfl, uc, hK1, S2.1, fun z => absurd z (by decide)⟩
    · refine ⟨by decide +kernel, 15, by decide +kernel, ?_⟩
      refine j_astore_n dL_branch_15 (by decide) ?_
      dsimp only [st1, st2, unL, List.set]
      refine j_iconst (v := 2) dL_branch_16 (by decide) ?_
      exact j_ireturn dL_branch_17 rfl rfl ⟨rfl, uc, hK1, S2.1, fun z => absurd z (by decide)⟩

set_option maxRecDepth 20000 in
theorem h_go {h hc hm : Hp} {x o mc ms d1 : Nat} {K : Hp → Prop} {p0 th r : Int32} (S : LSt h hc hm o) (kx : hK hc x = 12) (hth : th = 0 ∨ th = 1 ∨ th = 2 ∨ th = 3) (con : ConX mX11_go d1 mc ms [vr (some x), vi p0] hc (py K ["java/lang/IndexOutOfBoundsException", "java/util/NoSuchElementException", "java/lang/IllegalStateException"] th r)) : ConH mL_go (d1 + 1) mc ms [vr (some x), vi p0, vr (some o)] h (hpst K hm o th r) := by
  refine con_ofH rfl (Nat.le_of_ble_eq_true rfl) ?_
  show J mL_go (d1 + 1) mc ms _ 0 [some (vr (some x)), some (vi p0), some (vr (some o)), none] [] h
  refine j_aload_n dL_go_0 rfl ?_
  refine j_iconst (v := 0) dL_go_1 (by decide) ?_
  refine j_aload_n dL_go_2 rfl ?_
  refine j_iload_n dL_go_3 rfl ?_
  refine j_callX (as := [vi p0]) (st := [vi 0, vr (some o)]) dL_go_4 vl_L_59 (con_frameX con S.1) ((S.1 x (by rw [kx]; decide)).1.trans kx) rfl (Nat.lt_succ_self _) (Nat.le_refl _) (Nat.le_refl _) (Nat.le_of_ble_eq_true rfl) rfl (by decide +kernel) (fun v u p => ?_) (fun E u q p => ?_)
  · obtain ⟨uc, ⟨hK1, h0, rfl⟩, rfl, fr⟩ := p
    subst h0
    dsimp only [rs]
    have S2 := LSt_c S fr
    refine j_i2l dL_go_7 ?_
    refine j_last 0 dL_go_8 S2.1.2.2.2.1 rfl (by rw [S2.1.2.2.2.2.1]; decide) (by rw [S2.1.2.2.2.2.1]; decide) ?_
    refine j_goto 21 dL_go_9 (by decide) ?_
    refine j_iconst (v := 0) dL_go_21 (by decide) ?_
    exact j_ireturn dL_go_22 rfl rfl ⟨rfl, uc, hK1, LSt_o S2.1, fun _ => by rw [hG_pG, if_pos ⟨rfl, rfl⟩]⟩
  · obtain ⟨uc, ⟨hK1, h0, rfl⟩, rfl, fr⟩ := p
    have S2 := LSt_c S fr
    rcases hth with rfl | rfl | rfl | rfl
    · exact absurd rfl h0
    · refine ⟨by decide +kernel, 12, by decide +kernel, ?_⟩
      refine j_astore_n dL_go_12 (by decide) ?_
      dsimp only [st1, st2, unL, List.set]
      refine j_iconst (v := 1) dL_go_13 (by decide) ?_
      exact j_ireturn dL_go_14 rfl rfl ⟨rfl, uc, hK1, S2.1, fun z => absurd z (by decide)⟩
    · refine ⟨by decide +kernel, 15, by decide +kernel, ?_⟩
      refine j_astore_n dL_go_15 (by decide) ?_
      dsimp only [st1, st2, unL, List.set]
      refine j_iconst (v := 2) dL_go_16 (by decide) ?_
      exact j_ireturn dL_go_17 rfl rfl ⟨rfl, uc, hK1, S2.1, fun z => absurd z (by decide)⟩
    · refine ⟨by decide +kernel, 18, by decide +kernel, ?_⟩
      refine j_astore_n dL_go_18 (by decide) ?_
      dsimp only [st1, st2, unL, List.set]
      refine j_iconst (v := 3) dL_go_19 (by decide) ?_
      exact j_ireturn dL_go_20 rfl rfl ⟨rfl, uc, hK1, S2.1, fun z => absurd z (by decide)⟩

set_option maxRecDepth 20000 in
theorem h_merge {h hc hm : Hp} {x o mc ms d1 : Nat} {K : Hp → Prop} {p0 th r : Int32} (S : LSt h hc hm o) (kx : hK hc x = 12) (hth : th = 0 ∨ th = 1 ∨ th = 2 ∨ th = 3 ∨ th = 4) (con : ConX mX11_merge d1 mc ms [vr (some x), vi p0] hc (py K ["java/lang/IndexOutOfBoundsException", "java/util/NoSuchElementException", "java/lang/UnsupportedOperationException", "java/lang/IllegalStateException"] th r)) : ConH mL_merge (d1 + 1) mc ms [vr (some x), vi p0, vr (some o)] h (hpst K hm o th r) := by
  refine con_ofH rfl (Nat.le_of_ble_eq_true rfl) ?_
  show J mL_merge (d1 + 1) mc ms _ 0 [some (vr (some x)), some (vi p0), some (vr (some o)), none] [] h
  refine j_aload_n dL_merge_0 rfl ?_
  refine j_iconst (v := 0) dL_merge_1 (by decide) ?_
  refine j_aload_n dL_merge_2 rfl ?_
  refine j_iload_n dL_merge_3 rfl ?_
  refine j_callX (as := [vi p0]) (st := [vi 0, vr (some o)]) dL_merge_4 vl_L_62 (con_frameX con S.1) ((S.1 x (by rw [kx]; decide)).1.trans kx) rfl (Nat.lt_succ_self _) (Nat.le_refl _) (Nat.le_refl _) (Nat.le_of_ble_eq_true rfl) rfl (by decide +kernel) (fun v u p => ?_) (fun E u q p => ?_)
  · obtain ⟨uc, ⟨hK1, h0, rfl⟩, rfl, fr⟩ := p
    subst h0
    dsimp only [rs]
    have S2 := LSt_c S fr
    refine j_i2l dL_merge_7 ?_
    refine j_last 0 dL_merge_8 S2.1.2.2.2.1 rfl (by rw [S2.1.2.2.2.2.1]; decide) (by rw [S2.1.2.2.2.2.1]; decide) ?_
    refine j_goto 24 dL_merge_9 (by decide) ?_
    refine j_iconst (v := 0) dL_merge_24 (by decide) ?_
    exact j_ireturn dL_merge_25 rfl rfl ⟨rfl, uc, hK1, LSt_o S2.1, fun _ => by rw [hG_pG, if_pos ⟨rfl, rfl⟩]⟩
  · obtain ⟨uc, ⟨hK1, h0, rfl⟩, rfl, fr⟩ := p
    have S2 := LSt_c S fr
    rcases hth with rfl | rfl | rfl | rfl | rfl
    · exact absurd rfl h0
    · refine ⟨by decide +kernel, 12, by decide +kernel, ?_⟩
      refine j_astore_n dL_merge_12 (by decide) ?_
      dsimp only [st1, st2, unL, List.set]
      refine j_iconst (v := 1) dL_merge_13 (by decide) ?_
      exact j_ireturn dL_merge_14 rfl rfl ⟨rfl, uc, hK1, S2.1, fun z => absurd z (by decide)⟩
    · refine ⟨by decide +kernel, 15, by decide +kernel, ?_⟩
      refine j_astore_n dL_merge_15 (by decide) ?_
      dsimp only [st1, st2, unL, List.set]
      refine j_iconst (v := 2) dL_merge_16 (by decide) ?_
      exact j_ireturn dL_merge_17 rfl rfl ⟨rfl, uc, hK1, S2.1, fun z => absurd z (by decide)⟩
    · refine ⟨by decide +kernel, 18, by decide +kernel, ?_⟩
      refine j_astore_n dL_merge_18 (by decide) ?_
      dsimp only [st1, st2, unL, List.set]
      refine j_iconst (v := 3) dL_merge_19 (by decide) ?_
      exact j_ireturn dL_merge_20 rfl rfl ⟨rfl, uc, hK1, S2.1, fun z => absurd z (by decide)⟩
    · refine ⟨by decide +kernel, 21, by decide +kernel, ?_⟩
      refine j_astore_n dL_merge_21 (by decide) ?_
      dsimp only [st1, st2, unL, List.set]
      refine j_iconst (v := 4) dL_merge_22 (by decide) ?_
      exact j_ireturn dL_merge_23 rfl rfl ⟨rfl, uc, hK1, S2.1, fun z => absurd z (by decide)⟩

set_option maxRecDepth 20000 in
theorem h_pick {h hc hm : Hp} {x o mc ms d1 : Nat} {K : Hp → Prop} {p0 th r : Int32} (S : LSt h hc hm o) (kx : hK hc x = 12) (hth : th = 0 ∨ th = 1 ∨ th = 2 ∨ th = 3) (con : ConX mX11_pick d1 mc ms [vr (some x), vi p0] hc (py K ["java/util/NoSuchElementException", "java/lang/UnsupportedOperationException", "java/lang/IllegalStateException"] th r)) : ConH mL_pick (d1 + 1) mc ms [vr (some x), vi p0, vr (some o)] h (hpst K hm o th r) := by
  refine con_ofH rfl (Nat.le_of_ble_eq_true rfl) ?_
  show J mL_pick (d1 + 1) mc ms _ 0 [some (vr (some x)), some (vi p0), some (vr (some o)), none] [] h
  refine j_aload_n dL_pick_0 rfl ?_
  refine j_iconst (v := 0) dL_pick_1 (by decide) ?_
  refine j_aload_n dL_pick_2 rfl ?_
  refine j_iload_n dL_pick_3 rfl ?_
  refine j_callX (as := [vi p0]) (st := [vi 0, vr (some o)]) dL_pick_4 vl_L_65 (con_frameX con S.1) ((S.1 x (by rw [kx]; decide)).1.trans kx) rfl (Nat.lt_succ_self _) (Nat.le_refl _) (Nat.le_refl _) (Nat.le_of_ble_eq_true rfl) rfl (by decide +kernel) (fun v u p => ?_) (fun E u q p => ?_)
  · obtain ⟨uc, ⟨hK1, h0, rfl⟩, rfl, fr⟩ := p
    subst h0
    dsimp only [rs]
    have S2 := LSt_c S fr
    refine j_i2l dL_pick_7 ?_
    refine j_last 0 dL_pick_8 S2.1.2.2.2.1 rfl (by rw [S2.1.2.2.2.2.1]; decide) (by rw [S2.1.2.2.2.2.1]; decide) ?_
    refine j_goto 21 dL_pick_9 (by decide) ?_
    refine j_iconst (v := 0) dL_pick_21 (by decide) ?_
    exact j_ireturn dL_pick_22 rfl rfl ⟨rfl, uc, hK1, LSt_o S2.1, fun _ => by rw [hG_pG, if_pos ⟨rfl, rfl⟩]⟩
  · obtain ⟨uc, ⟨hK1, h0, rfl⟩, rfl, fr⟩ := p
    have S2 := LSt_c S fr
    rcases hth with rfl | rfl | rfl | rfl
    · exact absurd rfl h0
    · refine ⟨by decide +kernel, 12, by decide +kernel, ?_⟩
      refine j_astore_n dL_pick_12 (by decide) ?_
      dsimp only [st1, st2, unL, List.set]
      refine j_iconst (v := 1) dL_pick_13 (by decide) ?_
      exact j_ireturn dL_pick_14 rfl rfl ⟨rfl, uc, hK1, S2.1, fun z => absurd z (by decide)⟩
    · refine ⟨by decide +kernel, 15, by decide +kernel, ?_⟩
      refine j_astore_n dL_pick_15 (by decide) ?_
      dsimp only [st1, st2, unL, List.set]
      refine j_iconst (v := 2) dL_pick_16 (by decide) ?_
      exact j_ireturn dL_pick_17 rfl rfl ⟨rfl, uc, hK1, S2.1, fun z => absurd z (by decide)⟩
    · refine ⟨by decide +kernel, 18, by decide +kernel, ?_⟩
      refine j_astore_n dL_pick_18 (by decide) ?_
      dsimp only [st1, st2, unL, List.set]
      refine j_iconst (v := 3) dL_pick_19 (by decide) ?_
      exact j_ireturn dL_pick_20 rfl rfl ⟨rfl, uc, hK1, S2.1, fun z => absurd z (by decide)⟩

set_option maxRecDepth 20000 in
theorem h_choose {h hc hm : Hp} {x o mc ms d1 : Nat} {K : Hp → Prop} {p0 p1 th r : Int32} (S : LSt h hc hm o) (kx : hK hc x = 12) (hth : th = 0 ∨ th = 1) (con : ConX mX11_choose d1 mc ms [vr (some x), vi p0, vi p1] hc (py K ["java/lang/IndexOutOfBoundsException"] th r)) : ConH mL_choose (d1 + 1) mc ms [vr (some x), vi p0, vi p1, vr (some o)] h (hpst K hm o th r) := by
  refine con_ofH rfl (Nat.le_of_ble_eq_true rfl) ?_
  show J mL_choose (d1 + 1) mc ms _ 0 [some (vr (some x)), some (vi p0), some (vi p1), some (vr (some o)), none] [] h
  refine j_aload_n dL_choose_0 rfl ?_
  refine j_iconst (v := 0) dL_choose_1 (by decide) ?_
  refine j_aload_n dL_choose_2 rfl ?_
  refine j_iload_n dL_choose_3 rfl ?_
  refine j_iload_n dL_choose_4 rfl ?_
  refine j_callX (as := [vi p0, vi p1]) (st := [vi 0, vr (some o)]) dL_choose_5 vl_L_68 (con_frameX con S.1) ((S.1 x (by rw [kx]; decide)).1.trans kx) rfl (Nat.lt_succ_self _) (Nat.le_refl _) (Nat.le_refl _) (Nat.le_of_ble_eq_true rfl) rfl (by decide +kernel) (fun v u p => ?_) (fun E u q p => ?_)
  · obtain ⟨uc, ⟨hK1, h0, rfl⟩, rfl, fr⟩ := p
    subst h0
    dsimp only [rs]
    have S2 := LSt_c S fr
    refine j_i2l dL_choose_8 ?_
    refine j_last 0 dL_choose_9 S2.1.2.2.2.1 rfl (by rw [S2.1.2.2.2.2.1]; decide) (by rw [S2.1.2.2.2.2.1]; decide) ?_
    refine j_goto 17 dL_choose_10 (by decide) ?_
    refine j_iconst (v := 0) dL_choose_17 (by decide) ?_
    exact j_ireturn dL_choose_18 rfl rfl ⟨rfl, uc, hK1, LSt_o S2.1, fun _ => by rw [hG_pG, if_pos ⟨rfl, rfl⟩]⟩
  · obtain ⟨uc, ⟨hK1, h0, rfl⟩, rfl, fr⟩ := p
    have S2 := LSt_c S fr
    rcases hth with rfl | rfl
    · exact absurd rfl h0
    · refine ⟨by decide +kernel, 13, by decide +kernel, ?_⟩
      refine j_astore dL_choose_13 (by decide) ?_
      dsimp only [st1, st2, unL, List.set]
      refine j_iconst (v := 1) dL_choose_15 (by decide) ?_
      exact j_ireturn dL_choose_16 rfl rfl ⟨rfl, uc, hK1, S2.1, fun z => absurd z (by decide)⟩

set_option maxRecDepth 20000 in
theorem h_diff {h hc hm : Hp} {x o mc ms d1 : Nat} {K : Hp → Prop} {p0 p1 th r : Int32} (S : LSt h hc hm o) (kx : hK hc x = 12) (hth : th = 0 ∨ th = 1) (con : ConX mX11_diff d1 mc ms [vr (some x), vi p0, vi p1] hc (py K ["java/util/NoSuchElementException"] th r)) : ConH mL_diff (d1 + 1) mc ms [vr (some x), vi p0, vi p1, vr (some o)] h (hpst K hm o th r) := by
  refine con_ofH rfl (Nat.le_of_ble_eq_true rfl) ?_
  show J mL_diff (d1 + 1) mc ms _ 0 [some (vr (some x)), some (vi p0), some (vi p1), some (vr (some o)), none] [] h
  refine j_aload_n dL_diff_0 rfl ?_
  refine j_iconst (v := 0) dL_diff_1 (by decide) ?_
  refine j_aload_n dL_diff_2 rfl ?_
  refine j_iload_n dL_diff_3 rfl ?_
  refine j_iload_n dL_diff_4 rfl ?_
  refine j_callX (as := [vi p0, vi p1]) (st := [vi 0, vr (some o)]) dL_diff_5 vl_L_72 (con_frameX con S.1) ((S.1 x (by rw [kx]; decide)).1.trans kx) rfl (Nat.lt_succ_self _) (Nat.le_refl _) (Nat.le_refl _) (Nat.le_of_ble_eq_true rfl) rfl (by decide +kernel) (fun v u p => ?_) (fun E u q p => ?_)
  · obtain ⟨uc, ⟨hK1, h0, rfl⟩, rfl, fr⟩ := p
    subst h0
    dsimp only [rs]
    have S2 := LSt_c S fr
    refine j_i2l dL_diff_8 ?_
    refine j_last 0 dL_diff_9 S2.1.2.2.2.1 rfl (by rw [S2.1.2.2.2.2.1]; decide) (by rw [S2.1.2.2.2.2.1]; decide) ?_
    refine j_goto 17 dL_diff_10 (by decide) ?_
    refine j_iconst (v := 0) dL_diff_17 (by decide) ?_
    exact j_ireturn dL_diff_18 rfl rfl ⟨rfl, uc, hK1, LSt_o S2.1, fun _ => by rw [hG_pG, if_pos ⟨rfl, rfl⟩]⟩
  · obtain ⟨uc, ⟨hK1, h0, rfl⟩, rfl, fr⟩ := p
    have S2 := LSt_c S fr
    rcases hth with rfl | rfl
    · exact absurd rfl h0
    · refine ⟨by decide +kernel, 13, by decide +kernel, ?_⟩
      refine j_astore dL_diff_13 (by decide) ?_
      dsimp only [st1, st2, unL, List.set]
      refine j_iconst (v := 1) dL_diff_15 (by decide) ?_
      exact j_ireturn dL_diff_16 rfl rfl ⟨rfl, uc, hK1, S2.1, fun z => absurd z (by decide)⟩

set_option maxRecDepth 20000 in
theorem h_blame {h hc hm : Hp} {x o mc ms d1 : Nat} {K : Hp → Prop} {p0 p1 th r : Int32} (S : LSt h hc hm o) (kx : hK hc x = 12) (hth : th = 0 ∨ th = 1) (con : ConX mX11_blame d1 mc ms [vr (some x), vi p0, vi p1] hc (py K ["java/lang/IndexOutOfBoundsException"] th r)) : ConH mL_blame (d1 + 1) mc ms [vr (some x), vi p0, vi p1, vr (some o)] h (hpst K hm o th r) := by
  refine con_ofH rfl (Nat.le_of_ble_eq_true rfl) ?_
  show J mL_blame (d1 + 1) mc ms _ 0 [some (vr (some x)), some (vi p0), some (vi p1), some (vr (some o)), none] [] h
  refine j_aload_n dL_blame_0 rfl ?_
  refine j_iconst (v := 0) dL_blame_1 (by decide) ?_
  refine j_aload_n dL_blame_2 rfl ?_
  refine j_iload_n dL_blame_3 rfl ?_
  refine j_iload_n dL_blame_4 rfl ?_
  refine j_callX (as := [vi p0, vi p1]) (st := [vi 0, vr (some o)]) dL_blame_5 vl_L_75 (con_frameX con S.1) ((S.1 x (by rw [kx]; decide)).1.trans kx) rfl (Nat.lt_succ_self _) (Nat.le_refl _) (Nat.le_refl _) (Nat.le_of_ble_eq_true rfl) rfl (by decide +kernel) (fun v u p => ?_) (fun E u q p => ?_)
  · obtain ⟨uc, ⟨hK1, h0, rfl⟩, rfl, fr⟩ := p
    subst h0
    dsimp only [rs]
    have S2 := LSt_c S fr
    refine j_i2l dL_blame_8 ?_
    refine j_last 0 dL_blame_9 S2.1.2.2.2.1 rfl (by rw [S2.1.2.2.2.2.1]; decide) (by rw [S2.1.2.2.2.2.1]; decide) ?_
    refine j_goto 17 dL_blame_10 (by decide) ?_
    refine j_iconst (v := 0) dL_blame_17 (by decide) ?_
    exact j_ireturn dL_blame_18 rfl rfl ⟨rfl, uc, hK1, LSt_o S2.1, fun _ => by rw [hG_pG, if_pos ⟨rfl, rfl⟩]⟩
  · obtain ⟨uc, ⟨hK1, h0, rfl⟩, rfl, fr⟩ := p
    have S2 := LSt_c S fr
    rcases hth with rfl | rfl
    · exact absurd rfl h0
    · refine ⟨by decide +kernel, 13, by decide +kernel, ?_⟩
      refine j_astore dL_blame_13 (by decide) ?_
      dsimp only [st1, st2, unL, List.set]
      refine j_iconst (v := 1) dL_blame_15 (by decide) ?_
      exact j_ireturn dL_blame_16 rfl rfl ⟨rfl, uc, hK1, S2.1, fun z => absurd z (by decide)⟩

