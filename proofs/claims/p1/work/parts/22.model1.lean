/-! ===== the model: small methods ===== -/
set_option maxRecDepth 20000 in
theorem c_in {h : Hp} (x lo hi : Int32)  : Con mX12_in 1 0 0 [vi x, vi lo, vi hi] h (fun v u => u = h ∧ v = some (vi (b2 (lo ≤ x ∧ x ≤ hi)))) := by
  refine con_of rfl (Nat.le_of_ble_eq_true rfl) (by decide) ?_
  show J mX12_in 1 0 0 _ 0 [some (vi x), some (vi lo), some (vi hi)] [] h
  refine j_iload_n dX12_in_0 rfl ?_
  refine j_iload_n dX12_in_1 rfl ?_
  refine j_icmp_lt 14 dX12_in_2 (by decide) (fun c_2 => ?_) (fun c_2 => ?_)
  · refine j_iconst (v := 0) dX12_in_14 (by decide) ?_
    exact j_ireturn dX12_in_15 rfl rfl (⟨rfl, by simp only [lt_i, le_i] at *; first | (rw [b2t (by omega)]; done) | rw [b2f (by omega)]⟩)
  · refine j_iload_n dX12_in_5 rfl ?_
    refine j_iload_n dX12_in_6 rfl ?_
    refine j_icmp_gt 14 dX12_in_7 (by decide) (fun c_7 => ?_) (fun c_7 => ?_)
    · refine j_iconst (v := 0) dX12_in_14 (by decide) ?_
      exact j_ireturn dX12_in_15 rfl rfl (⟨rfl, by simp only [lt_i, le_i] at *; first | (rw [b2t (by omega)]; done) | rw [b2f (by omega)]⟩)
    · refine j_iconst (v := 1) dX12_in_10 (by decide) ?_
      refine j_goto 15 dX12_in_11 (by decide) ?_
      exact j_ireturn dX12_in_15 rfl rfl (⟨rfl, by simp only [lt_i, le_i] at *; first | (rw [b2t (by omega)]; done) | rw [b2f (by omega)]⟩)

set_option maxRecDepth 20000 in
theorem c_thrown {h : Hp} {g : Nat → Nat} (hm : MW h g) : Con mX12_thrown 1 0 0 [vr (some (g 0))] h (fun v u => u = h ∧ v = some (vi (hI h (g 0) 0))) := by
  refine con_of rfl (Nat.le_of_ble_eq_true rfl) (by decide) ?_
  show J mX12_thrown 1 0 0 _ 0 [some (vr (some (g 0)))] [] h
  refine j_aload_n dX12_thrown_0 rfl ?_
  refine j_getI dX12_thrown_1 fl_X12_202 rfl hm.1 ?_
  exact j_ireturn dX12_thrown_4 rfl rfl (⟨rfl, rfl⟩)

set_option maxRecDepth 20000 in
theorem c_throwing {h : Hp} {g : Nat → Nat} (x : Int32) (hm : MW h g) : Con mX12_throwing 1 0 0 [vr (some (g 0)), vi x] h (fun v u => u = pI h (g 0) 0 x ∧ v = some (vi 0)) := by
  refine con_of rfl (Nat.le_of_ble_eq_true rfl) (by decide) ?_
  show J mX12_throwing 1 0 0 _ 0 [some (vr (some (g 0))), some (vi x)] [] h
  refine j_aload_n dX12_throwing_0 rfl ?_
  refine j_iload_n dX12_throwing_1 rfl ?_
  refine j_putI dX12_throwing_2 fl_X12_202 rfl rfl rfl hm.1 ?_
  refine j_iconst (v := 0) dX12_throwing_5 (by decide) ?_
  exact j_ireturn dX12_throwing_6 rfl rfl (⟨rfl, rfl⟩)

set_option maxRecDepth 20000 in
theorem c_linesOf0 {h : Hp} {g : Nat → Nat} (s : Nat) (hs : s < 122) (hm : MW h g) : Con mX12_linesOf 1 0 0 [vr (some (g 0)), vi (nI s), vi 0] h (fun v u => u = h ∧ v = some (vi (hI h (g 1) s))) := by
  refine con_of rfl (Nat.le_of_ble_eq_true rfl) (by decide) ?_
  show J mX12_linesOf 1 0 0 _ 0 [some (vr (some (g 0))), some (vi (nI s)), some (vi 0)] [] h
  refine j_iload_n dX12_linesOf_0 rfl ?_
  refine j_if_ne 13 dX12_linesOf_1 (by decide) (fun c_1 => ?_) (fun c_1 => ?_)
  · exact absurd rfl c_1
  · refine j_aload_n dX12_linesOf_4 rfl ?_
    refine j_getR dX12_linesOf_5 fl_X12_7 rfl hm.1 (mO hm rfl) ?_
    refine j_iload_n dX12_linesOf_8 rfl ?_
    refine j_iald _ dX12_linesOf_9 (mK hm rfl) (by first | with_reducible rfl | (simp (disch := omega) only [li_1, li_2, li_3, li_4, li_5, li_6, li_7, li_8, li_10, li_20, li_24, li_32, li_40, li_64, li_320, li_39, li_41, li_81, li_121, li_100000, pk_sub, pk_mul, nI_add, inc1, dec1]; with_reducible rfl)) (Nat.lt_of_lt_of_eq (by omega) (mN hm (k := 1) (n := 122) rfl rfl).symm) (Nat.lt_of_le_of_lt (Nat.le_of_eq (mN hm (k := 1) (n := 122) rfl rfl)) (by decide)) ?_
    refine j_goto 19 dX12_linesOf_10 (by decide) ?_
    exact j_ireturn dX12_linesOf_19 rfl rfl (⟨rfl, rfl⟩)

set_option maxRecDepth 20000 in
theorem c_linesOf1 {h : Hp} {g : Nat → Nat} (s : Nat) (hs : s < 122) (hm : MW h g) : Con mX12_linesOf 1 0 0 [vr (some (g 0)), vi (nI s), vi 1] h (fun v u => u = h ∧ v = some (vi (hI h (g 2) s))) := by
  refine con_of rfl (Nat.le_of_ble_eq_true rfl) (by decide) ?_
  show J mX12_linesOf 1 0 0 _ 0 [some (vr (some (g 0))), some (vi (nI s)), some (vi 1)] [] h
  refine j_iload_n dX12_linesOf_0 rfl ?_
  refine j_if_ne 13 dX12_linesOf_1 (by decide) (fun c_1 => ?_) (fun c_1 => ?_)
  · refine j_aload_n dX12_linesOf_13 rfl ?_
    refine j_getR dX12_linesOf_14 fl_X12_13 rfl hm.1 (mO hm rfl) ?_
    refine j_iload_n dX12_linesOf_17 rfl ?_
    refine j_iald _ dX12_linesOf_18 (mK hm rfl) (by first | with_reducible rfl | (simp (disch := omega) only [li_1, li_2, li_3, li_4, li_5, li_6, li_7, li_8, li_10, li_20, li_24, li_32, li_40, li_64, li_320, li_39, li_41, li_81, li_121, li_100000, pk_sub, pk_mul, nI_add, inc1, dec1]; with_reducible rfl)) (Nat.lt_of_lt_of_eq (by omega) (mN hm (k := 2) (n := 122) rfl rfl).symm) (Nat.lt_of_le_of_lt (Nat.le_of_eq (mN hm (k := 2) (n := 122) rfl rfl)) (by decide)) ?_
    exact j_ireturn dX12_linesOf_19 rfl rfl (⟨rfl, rfl⟩)
  · exact absurd (by decide) c_1

set_option maxRecDepth 20000 in
theorem c_lineAt0 {h : Hp} {g : Nat → Nat} (s : Nat) (hs : s < 122) (k : Nat) (hk : k < 32) (hm : MW h g) : Con mX12_lineAt 1 0 0 [vr (some (g 0)), vi (nI s), vi 0, vi (nI k)] h (fun v u => u = h ∧ v = some (vi (hI h (g 3) (32 * s + k)))) := by
  refine con_of rfl (Nat.le_of_ble_eq_true rfl) (by decide) ?_
  show J mX12_lineAt 1 0 0 _ 0 [some (vr (some (g 0))), some (vi (nI s)), some (vi 0), some (vi (nI k))] [] h
  refine j_iload_n dX12_lineAt_0 rfl ?_
  refine j_if_ne 18 dX12_lineAt_1 (by decide) (fun c_1 => ?_) (fun c_1 => ?_)
  · exact absurd rfl c_1
  · refine j_aload_n dX12_lineAt_4 rfl ?_
    refine j_getR dX12_lineAt_5 fl_X12_16 rfl hm.1 (mO hm rfl) ?_
    refine j_bipush (v := 32) dX12_lineAt_8 (by decide) ?_
    refine j_iload_n dX12_lineAt_10 rfl ?_
    refine j_imul dX12_lineAt_11 ?_
    refine j_iload_n dX12_lineAt_12 rfl ?_
    refine j_iadd dX12_lineAt_13 ?_
    refine j_iald _ dX12_lineAt_14 (mK hm rfl) (by first | with_reducible rfl | (simp (disch := omega) only [li_1, li_2, li_3, li_4, li_5, li_6, li_7, li_8, li_10, li_20, li_24, li_32, li_40, li_64, li_320, li_39, li_41, li_81, li_121, li_100000, pk_sub, pk_mul, nI_add, inc1, dec1]; with_reducible rfl)) (Nat.lt_of_lt_of_eq (by omega) (mN hm (k := 3) (n := 3904) rfl rfl).symm) (Nat.lt_of_le_of_lt (Nat.le_of_eq (mN hm (k := 3) (n := 3904) rfl rfl)) (by decide)) ?_
    refine j_goto 29 dX12_lineAt_15 (by decide) ?_
    exact j_ireturn dX12_lineAt_29 rfl rfl (⟨rfl, rfl⟩)

set_option maxRecDepth 20000 in
theorem c_lineAt1 {h : Hp} {g : Nat → Nat} (s : Nat) (hs : s < 122) (k : Nat) (hk : k < 10) (hm : MW h g) : Con mX12_lineAt 1 0 0 [vr (some (g 0)), vi (nI s), vi 1, vi (nI k)] h (fun v u => u = h ∧ v = some (vi (hI h (g 4) (10 * s + k)))) := by
  refine con_of rfl (Nat.le_of_ble_eq_true rfl) (by decide) ?_
  show J mX12_lineAt 1 0 0 _ 0 [some (vr (some (g 0))), some (vi (nI s)), some (vi 1), some (vi (nI k))] [] h
  refine j_iload_n dX12_lineAt_0 rfl ?_
  refine j_if_ne 18 dX12_lineAt_1 (by decide) (fun c_1 => ?_) (fun c_1 => ?_)
  · refine j_aload_n dX12_lineAt_18 rfl ?_
    refine j_getR dX12_lineAt_19 fl_X12_19 rfl hm.1 (mO hm rfl) ?_
    refine j_bipush (v := 10) dX12_lineAt_22 (by decide) ?_
    refine j_iload_n dX12_lineAt_24 rfl ?_
    refine j_imul dX12_lineAt_25 ?_
    refine j_iload_n dX12_lineAt_26 rfl ?_
    refine j_iadd dX12_lineAt_27 ?_
    refine j_iald _ dX12_lineAt_28 (mK hm rfl) (by first | with_reducible rfl | (simp (disch := omega) only [li_1, li_2, li_3, li_4, li_5, li_6, li_7, li_8, li_10, li_20, li_24, li_32, li_40, li_64, li_320, li_39, li_41, li_81, li_121, li_100000, pk_sub, pk_mul, nI_add, inc1, dec1]; with_reducible rfl)) (Nat.lt_of_lt_of_eq (by omega) (mN hm (k := 4) (n := 1220) rfl rfl).symm) (Nat.lt_of_le_of_lt (Nat.le_of_eq (mN hm (k := 4) (n := 1220) rfl rfl)) (by decide)) ?_
    exact j_ireturn dX12_lineAt_29 rfl rfl (⟨rfl, rfl⟩)
  · exact absurd (by decide) c_1

set_option maxRecDepth 20000 in
theorem l_place12_0 {h : Hp} {g : Nat → Nat} {s n0 : Nat} {idn : Int32} (hm : MW h g) (hs : s < 122) (hr : hI h (g 1) s = nI n0) (hn : n0 ≤ 32) : ∀ (n : Nat) (i : Nat), n0 - i < n → i ≤ n0 ∧ (∀ j, j < i → (fun k => hI h (g 3) (32 * s + k)) j ≠ idn) → J mX12_placeOf 2 0 0 (nx (fun v u => u = h ∧ v = some (vi (plm (fun k => hI h (g 3) (32 * s + k)) idn n0)))) 3 [some (vr (some (g 0))), some (vi (nI s)), some (vi 0), some (vi idn), some (vi (nI i))] [] h := by
  intro n
  induction n with
  | zero => intro i hlt; omega
  | succ n ih =>
    intro i hlt hinv
    refine j_iload dX12_placeOf_3 rfl ?_
    refine j_aload_n dX12_placeOf_5 rfl ?_
    refine j_iload_n dX12_placeOf_6 rfl ?_
    refine j_iload_n dX12_placeOf_7 rfl ?_
    refine j_callV2 dX12_placeOf_8 vl_X12_209 (c_linesOf0 s hs hm) hm.1 rfl (by decide) (by omega) (by omega) (Nat.le_of_ble_eq_true rfl) (fun v_8 u_8 p_8 => ?_)
    obtain ⟨e_8, rfl⟩ := p_8
    rw [e_8]
    clear e_8
    dsimp only [rs]
    rw [hr]
    refine j_icmp_ge 35 dX12_placeOf_11 (by decide) (fun c_11 => ?_) (fun c_11 => ?_)
    · rw [nI_leI (by omega) (by omega)] at c_11
      refine j_iconst (v := -1) dX12_placeOf_35 (by decide) ?_
      exact j_ireturn dX12_placeOf_36 rfl rfl ⟨rfl, by rw [plm, pl1_none (fun j hj => hinv.2 j (by omega)), if_pos rfl]⟩
    · have hlt2 : i < n0 := by rw [nI_leI (by omega) (by omega)] at c_11; omega
      refine j_aload_n dX12_placeOf_14 rfl ?_
      refine j_iload_n dX12_placeOf_15 rfl ?_
      refine j_iload_n dX12_placeOf_16 rfl ?_
      refine j_iload dX12_placeOf_17 rfl ?_
      refine j_callV3 dX12_placeOf_19 vl_X12_213 (c_lineAt0 s hs i (by omega) hm) hm.1 rfl (by decide) (by omega) (by omega) (Nat.le_of_ble_eq_true rfl) (fun v_19 u_19 p_19 => ?_)
      obtain ⟨e_19, rfl⟩ := p_19
      rw [e_19]
      clear e_19
      dsimp only [rs]
      refine j_iload_n dX12_placeOf_22 rfl ?_
      refine j_icmp_ne 29 dX12_placeOf_23 (by decide) (fun c_23 => ?_) (fun c_23 => ?_)
      · refine j_iinc dX12_placeOf_29 rfl ?_
        dsimp only [st1, st2, unL, List.set]
        refine j_goto 3 dX12_placeOf_32 (by decide) ?_
        refine j_lle (lv' := [some (vr (some (g 0))), some (vi (nI s)), some (vi 0), some (vi idn), some (vi (nI (i + 1)))]) (by simp [lle, nI_1]) ?_
        exact ih (i + 1) (by omega) ⟨by omega, lt_s hinv.2 c_23⟩
      · refine j_iload dX12_placeOf_26 rfl ?_
        exact j_ireturn dX12_placeOf_28 rfl rfl ⟨rfl, by rw [plm, pl1_at hinv.2 (Classical.not_not.mp c_23) hlt2, if_neg (by omega)]; rfl⟩

set_option maxRecDepth 20000 in
theorem c_place12_0 {h : Hp} {g : Nat → Nat} {s n0 : Nat} (idn : Int32) (hm : MW h g) (hs : s < 122) (hr : hI h (g 1) s = nI n0) (hn : n0 ≤ 32) : Con mX12_placeOf 2 0 0 [vr (some (g 0)), vi (nI s), vi 0, vi idn] h (fun v u => u = h ∧ v = some (vi (plm (fun k => hI h (g 3) (32 * s + k)) idn n0))) := by
  refine con_of rfl (Nat.le_of_ble_eq_true rfl) (by decide) ?_
  show J mX12_placeOf 2 0 0 _ 0 [some (vr (some (g 0))), some (vi (nI s)), some (vi 0), some (vi idn), none] [] h
  refine j_iconst (v := 0) dX12_placeOf_0 (by decide) ?_
  refine j_istore dX12_placeOf_1 (by decide) ?_
  dsimp only [st1, st2, unL, List.set]
  exact l_place12_0 hm hs hr hn (n0 + 1) 0 (by omega) ⟨by omega, lt_0⟩

set_option maxRecDepth 20000 in
theorem l_place12_1 {h : Hp} {g : Nat → Nat} {s n0 : Nat} {idn : Int32} (hm : MW h g) (hs : s < 122) (hr : hI h (g 2) s = nI n0) (hn : n0 ≤ 10) : ∀ (n : Nat) (i : Nat), n0 - i < n → i ≤ n0 ∧ (∀ j, j < i → (fun k => hI h (g 4) (10 * s + k)) j ≠ idn) → J mX12_placeOf 2 0 0 (nx (fun v u => u = h ∧ v = some (vi (plm (fun k => hI h (g 4) (10 * s + k)) idn n0)))) 3 [some (vr (some (g 0))), some (vi (nI s)), some (vi 1), some (vi idn), some (vi (nI i))] [] h := by
  intro n
  induction n with
  | zero => intro i hlt; omega
  | succ n ih =>
    intro i hlt hinv
    refine j_iload dX12_placeOf_3 rfl ?_
    refine j_aload_n dX12_placeOf_5 rfl ?_
    refine j_iload_n dX12_placeOf_6 rfl ?_
    refine j_iload_n dX12_placeOf_7 rfl ?_
    refine j_callV2 dX12_placeOf_8 vl_X12_209 (c_linesOf1 s hs hm) hm.1 rfl (by decide) (by omega) (by omega) (Nat.le_of_ble_eq_true rfl) (fun v_8 u_8 p_8 => ?_)
    obtain ⟨e_8, rfl⟩ := p_8
    rw [e_8]
    clear e_8
    dsimp only [rs]
    rw [hr]
    refine j_icmp_ge 35 dX12_placeOf_11 (by decide) (fun c_11 => ?_) (fun c_11 => ?_)
    · rw [nI_leI (by omega) (by omega)] at c_11
      refine j_iconst (v := -1) dX12_placeOf_35 (by decide) ?_
      exact j_ireturn dX12_placeOf_36 rfl rfl ⟨rfl, by rw [plm, pl1_none (fun j hj => hinv.2 j (by omega)), if_pos rfl]⟩
    · have hlt2 : i < n0 := by rw [nI_leI (by omega) (by omega)] at c_11; omega
      refine j_aload_n dX12_placeOf_14 rfl ?_
      refine j_iload_n dX12_placeOf_15 rfl ?_
      refine j_iload_n dX12_placeOf_16 rfl ?_
      refine j_iload dX12_placeOf_17 rfl ?_
      refine j_callV3 dX12_placeOf_19 vl_X12_213 (c_lineAt1 s hs i (by omega) hm) hm.1 rfl (by decide) (by omega) (by omega) (Nat.le_of_ble_eq_true rfl) (fun v_19 u_19 p_19 => ?_)
      obtain ⟨e_19, rfl⟩ := p_19
      rw [e_19]
      clear e_19
      dsimp only [rs]
      refine j_iload_n dX12_placeOf_22 rfl ?_
      refine j_icmp_ne 29 dX12_placeOf_23 (by decide) (fun c_23 => ?_) (fun c_23 => ?_)
      · refine j_iinc dX12_placeOf_29 rfl ?_
        dsimp only [st1, st2, unL, List.set]
        refine j_goto 3 dX12_placeOf_32 (by decide) ?_
        refine j_lle (lv' := [some (vr (some (g 0))), some (vi (nI s)), some (vi 1), some (vi idn), some (vi (nI (i + 1)))]) (by simp [lle, nI_1]) ?_
        exact ih (i + 1) (by omega) ⟨by omega, lt_s hinv.2 c_23⟩
      · refine j_iload dX12_placeOf_26 rfl ?_
        exact j_ireturn dX12_placeOf_28 rfl rfl ⟨rfl, by rw [plm, pl1_at hinv.2 (Classical.not_not.mp c_23) hlt2, if_neg (by omega)]; rfl⟩

set_option maxRecDepth 20000 in
theorem c_place12_1 {h : Hp} {g : Nat → Nat} {s n0 : Nat} (idn : Int32) (hm : MW h g) (hs : s < 122) (hr : hI h (g 2) s = nI n0) (hn : n0 ≤ 10) : Con mX12_placeOf 2 0 0 [vr (some (g 0)), vi (nI s), vi 1, vi idn] h (fun v u => u = h ∧ v = some (vi (plm (fun k => hI h (g 4) (10 * s + k)) idn n0))) := by
  refine con_of rfl (Nat.le_of_ble_eq_true rfl) (by decide) ?_
  show J mX12_placeOf 2 0 0 _ 0 [some (vr (some (g 0))), some (vi (nI s)), some (vi 1), some (vi idn), none] [] h
  refine j_iconst (v := 0) dX12_placeOf_0 (by decide) ?_
  refine j_istore dX12_placeOf_1 (by decide) ?_
  dsimp only [st1, st2, unL, List.set]
  exact l_place12_1 hm hs hr hn (n0 + 1) 0 (by omega) ⟨by omega, lt_0⟩

set_option maxRecDepth 20000 in
theorem c_isCell12 {h : Hp} {g : Nat → Nat} (s : Nat) (hs : s < 122) {nr nc : Nat} (r c : Int32) (hm : MW h g) (hr : hI h (g 1) s = nI nr) (hc : hI h (g 2) s = nI nc) (l2 : nr ≤ 32) (l4 : nc ≤ 10) : Con mX12_isCell 2 0 0 [vr (some (g 0)), vi (nI s), vi r, vi c] h (fun v u => u = h ∧ v = some (vi (b2 (inSh nr nc r c)))) := by
  refine con_of rfl (Nat.le_of_ble_eq_true rfl) (by decide) ?_
  show J mX12_isCell 2 0 0 _ 0 [some (vr (some (g 0))), some (vi (nI s)), some (vi r), some (vi c)] [] h
  refine j_iload_n dX12_isCell_0 rfl ?_
  refine j_iconst (v := 1) dX12_isCell_1 (by decide) ?_
  refine j_aload_n dX12_isCell_2 rfl ?_
  refine j_getR dX12_isCell_3 fl_X12_7 rfl hm.1 (mO hm rfl) ?_
  refine j_iload_n dX12_isCell_6 rfl ?_
  refine j_iald _ dX12_isCell_7 (mK hm rfl) (by first | with_reducible rfl | (simp (disch := omega) only [li_1, li_2, li_3, li_4, li_5, li_6, li_7, li_8, li_10, li_20, li_24, li_32, li_40, li_64, li_320, li_39, li_41, li_81, li_121, li_100000, pk_sub, pk_mul, nI_add, inc1, dec1]; with_reducible rfl)) (Nat.lt_of_lt_of_eq (by omega) (mN hm (k := 1) (n := 122) rfl rfl).symm) (Nat.lt_of_le_of_lt (Nat.le_of_eq (mN hm (k := 1) (n := 122) rfl rfl)) (by decide)) ?_
  refine j_callS3 dX12_isCell_8 sl_X12_220 (c_in _ _ _) rfl (by decide) (by omega) (by omega) (Nat.le_of_ble_eq_true rfl) (fun v_8 u_8 p_8 => ?_)
  obtain ⟨e_8, rfl⟩ := p_8
  rw [e_8]
  clear e_8
  dsimp only [rs]
  refine j_if_eq 32 dX12_isCell_11 (by decide) (fun c_11 => ?_) (fun c_11 => ?_)
  · refine j_iconst (v := 0) dX12_isCell_32 (by decide) ?_
    exact j_ireturn dX12_isCell_33 rfl rfl (⟨rfl, by simp only [hr, hc, b2_0, b2_nn, le_i, nI_toInt (n := nr) (by omega), nI_toInt (n := nc) (by omega), Int32.reduceToInt] at *; first | (rw [b2t (by omega)]; done) | rw [b2f (by omega)]⟩)
  · refine j_iload_n dX12_isCell_14 rfl ?_
    refine j_iconst (v := 1) dX12_isCell_15 (by decide) ?_
    refine j_aload_n dX12_isCell_16 rfl ?_
    refine j_getR dX12_isCell_17 fl_X12_13 rfl hm.1 (mO hm rfl) ?_
    refine j_iload_n dX12_isCell_20 rfl ?_
    refine j_iald _ dX12_isCell_21 (mK hm rfl) (by first | with_reducible rfl | (simp (disch := omega) only [li_1, li_2, li_3, li_4, li_5, li_6, li_7, li_8, li_10, li_20, li_24, li_32, li_40, li_64, li_320, li_39, li_41, li_81, li_121, li_100000, pk_sub, pk_mul, nI_add, inc1, dec1]; with_reducible rfl)) (Nat.lt_of_lt_of_eq (by omega) (mN hm (k := 2) (n := 122) rfl rfl).symm) (Nat.lt_of_le_of_lt (Nat.le_of_eq (mN hm (k := 2) (n := 122) rfl rfl)) (by decide)) ?_
    refine j_callS3 dX12_isCell_22 sl_X12_220 (c_in _ _ _) rfl (by decide) (by omega) (by omega) (Nat.le_of_ble_eq_true rfl) (fun v_22 u_22 p_22 => ?_)
    obtain ⟨e_22, rfl⟩ := p_22
    rw [e_22]
    clear e_22
    dsimp only [rs]
    refine j_if_eq 32 dX12_isCell_25 (by decide) (fun c_25 => ?_) (fun c_25 => ?_)
    · refine j_iconst (v := 0) dX12_isCell_32 (by decide) ?_
      exact j_ireturn dX12_isCell_33 rfl rfl (⟨rfl, by simp only [hr, hc, b2_0, b2_nn, le_i, nI_toInt (n := nr) (by omega), nI_toInt (n := nc) (by omega), Int32.reduceToInt] at *; first | (rw [b2t (by omega)]; done) | rw [b2f (by omega)]⟩)
    · refine j_iconst (v := 1) dX12_isCell_28 (by decide) ?_
      refine j_goto 33 dX12_isCell_29 (by decide) ?_
      exact j_ireturn dX12_isCell_33 rfl rfl (⟨rfl, by simp only [hr, hc, b2_0, b2_nn, le_i, nI_toInt (n := nr) (by omega), nI_toInt (n := nc) (by omega), Int32.reduceToInt] at *; first | (rw [b2t (by omega)]; done) | rw [b2f (by omega)]⟩)

set_option maxRecDepth 20000 in
theorem c_cellAt {h : Hp} {g : Nat → Nat} (s : Nat) (hs : s < 122) (i j : Nat) (hi : i < 32) (hj : j < 10) (hm : MW h g) : Con mX12_cellAt 1 0 0 [vr (some (g 0)), vi (nI s), vi (nI (i + 1)), vi (nI (j + 1))] h (fun v u => u = h ∧ v = some (vi (hI h (g 5) (320 * s + 10 * i + j)))) := by
  refine con_of rfl (Nat.le_of_ble_eq_true rfl) (by decide) ?_
  show J mX12_cellAt 1 0 0 _ 0 [some (vr (some (g 0))), some (vi (nI s)), some (vi (nI (i + 1))), some (vi (nI (j + 1)))] [] h
  refine j_aload_n dX12_cellAt_0 rfl ?_
  refine j_getR dX12_cellAt_1 fl_X12_23 rfl hm.1 (mO hm rfl) ?_
  refine j_sipush (v := 320) dX12_cellAt_4 (by decide) ?_
  refine j_iload_n dX12_cellAt_7 rfl ?_
  refine j_imul dX12_cellAt_8 ?_
  refine j_bipush (v := 10) dX12_cellAt_9 (by decide) ?_
  refine j_iload_n dX12_cellAt_11 rfl ?_
  refine j_iconst (v := 1) dX12_cellAt_12 (by decide) ?_
  refine j_isub dX12_cellAt_13 ?_
  refine j_imul dX12_cellAt_14 ?_
  refine j_iadd dX12_cellAt_15 ?_
  refine j_iload_n dX12_cellAt_16 rfl ?_
  refine j_iadd dX12_cellAt_17 ?_
  refine j_iconst (v := 1) dX12_cellAt_18 (by decide) ?_
  refine j_isub dX12_cellAt_19 ?_
  refine j_iald (320 * s + 10 * i + j) dX12_cellAt_20 (mK hm rfl) (by simp (disch := omega) only [li_1, li_2, li_3, li_4, li_5, li_6, li_7, li_8, li_10, li_20, li_24, li_32, li_40, li_64, li_320, pk_sub, pk_mul, nI_add, inc1]; try (congr 1; (try simp only [Nat.add_sub_cancel]); (try omega))) (by rw [mN hm (k := 5) (n := 39040) rfl rfl]; omega) (by rw [mN hm (k := 5) (n := 39040) rfl rfl]; omega) ?_
  exact j_ireturn dX12_cellAt_21 rfl rfl (⟨rfl, rfl⟩)

set_option maxRecDepth 20000 in
theorem c_setCell {h : Hp} {g : Nat → Nat} (i j : Nat) (hi : i < 32) (hj : j < 10) (x : Int32) (hm : MW h g) : Con mX12_setCell 1 0 0 [vr (some (g 0)), vi (nI (i + 1)), vi (nI (j + 1)), vi x] h (fun v u => u = pI h (g 5) (12800 + 10 * i + j) x ∧ v = none) := by
  refine con_of rfl (Nat.le_of_ble_eq_true rfl) (by decide) ?_
  show J mX12_setCell 1 0 0 _ 0 [some (vr (some (g 0))), some (vi (nI (i + 1))), some (vi (nI (j + 1))), some (vi x)] [] h
  refine j_aload_n dX12_setCell_0 rfl ?_
  refine j_getR dX12_setCell_1 fl_X12_23 rfl hm.1 (mO hm rfl) ?_
  refine j_sipush (v := nI 12800) dX12_setCell_4 (by decide) ?_
  refine j_bipush (v := 10) dX12_setCell_7 (by decide) ?_
  refine j_iload_n dX12_setCell_9 rfl ?_
  refine j_iconst (v := 1) dX12_setCell_10 (by decide) ?_
  refine j_isub dX12_setCell_11 ?_
  refine j_imul dX12_setCell_12 ?_
  refine j_iadd dX12_setCell_13 ?_
  refine j_iload_n dX12_setCell_14 rfl ?_
  refine j_iadd dX12_setCell_15 ?_
  refine j_iconst (v := 1) dX12_setCell_16 (by decide) ?_
  refine j_isub dX12_setCell_17 ?_
  refine j_iload_n dX12_setCell_18 rfl ?_
  refine j_iast (12800 + 10 * i + j) dX12_setCell_19 (mK hm rfl) (by simp (disch := omega) only [li_1, li_2, li_3, li_4, li_5, li_6, li_7, li_8, li_10, li_20, li_24, li_32, li_40, li_64, li_320, pk_sub, pk_mul, nI_add, inc1]; try (congr 1; (try simp only [Nat.add_sub_cancel]); (try omega))) (by rw [mN hm (k := 5) (n := 39040) rfl rfl]; omega) (by rw [mN hm (k := 5) (n := 39040) rfl rfl]; omega) ?_
  exact j_return dX12_setCell_20 rfl (⟨rfl, rfl⟩)

set_option maxRecDepth 20000 in
theorem c_forget12 {h : Hp} {g : Nat → Nat} (hm : MW h g) : Con mX12_forgetSteps 1 0 0 [vr (some (g 0))] h (fun v u => u = pI (pI h (g 0) 16 0) (g 0) 17 0 ∧ v = none) := by
  refine con_of rfl (Nat.le_of_ble_eq_true rfl) (by decide) ?_
  show J mX12_forgetSteps 1 0 0 _ 0 [some (vr (some (g 0)))] [] h
  refine j_aload_n dX12_forgetSteps_0 rfl ?_
  refine j_iconst (v := 0) dX12_forgetSteps_1 (by decide) ?_
  refine j_putI dX12_forgetSteps_2 fl_X12_227 rfl rfl rfl hm.1 ?_
  refine j_aload_n dX12_forgetSteps_5 rfl ?_
  refine j_iconst (v := 0) dX12_forgetSteps_6 (by decide) ?_
  refine j_putI dX12_forgetSteps_7 fl_X12_230 rfl rfl rfl hm.1 ?_
  exact j_return dX12_forgetSteps_10 rfl (⟨rfl, rfl⟩)

set_option maxRecDepth 20000 in
theorem c_least {h : Hp} (x y : Int32)  : Con mX12_least 1 0 0 [vi x, vi y] h (fun v u => u = h ∧ v = some (vi (if x < y then x else y))) := by
  refine con_of rfl (Nat.le_of_ble_eq_true rfl) (by decide) ?_
  show J mX12_least 1 0 0 _ 0 [some (vi x), some (vi y)] [] h
  refine j_iload_n dX12_least_0 rfl ?_
  refine j_iload_n dX12_least_1 rfl ?_
  refine j_icmp_ge 9 dX12_least_2 (by decide) (fun c_2 => ?_) (fun c_2 => ?_)
  · refine j_iload_n dX12_least_9 rfl ?_
    exact j_ireturn dX12_least_10 rfl rfl (⟨rfl, by simp only [lt_i, le_i] at *; first | (rw [if_pos (by omega)]; done) | rw [if_neg (by omega)]⟩)
  · refine j_iload_n dX12_least_5 rfl ?_
    refine j_goto 10 dX12_least_6 (by decide) ?_
    exact j_ireturn dX12_least_10 rfl rfl (⟨rfl, by simp only [lt_i, le_i] at *; first | (rw [if_pos (by omega)]; done) | rw [if_neg (by omega)]⟩)

set_option maxRecDepth 20000 in
theorem c_most {h : Hp} (x y : Int32)  : Con mX12_most 1 0 0 [vi x, vi y] h (fun v u => u = h ∧ v = some (vi (if y < x then x else y))) := by
  refine con_of rfl (Nat.le_of_ble_eq_true rfl) (by decide) ?_
  show J mX12_most 1 0 0 _ 0 [some (vi x), some (vi y)] [] h
  refine j_iload_n dX12_most_0 rfl ?_
  refine j_iload_n dX12_most_1 rfl ?_
  refine j_icmp_le 9 dX12_most_2 (by decide) (fun c_2 => ?_) (fun c_2 => ?_)
  · refine j_iload_n dX12_most_9 rfl ?_
    exact j_ireturn dX12_most_10 rfl rfl (⟨rfl, by simp only [lt_i, le_i] at *; first | (rw [if_pos (by omega)]; done) | rw [if_neg (by omega)]⟩)
  · refine j_iload_n dX12_most_5 rfl ?_
    refine j_goto 10 dX12_most_6 (by decide) ?_
    exact j_ireturn dX12_most_10 rfl rfl (⟨rfl, by simp only [lt_i, le_i] at *; first | (rw [if_pos (by omega)]; done) | rw [if_neg (by omega)]⟩)

set_option maxRecDepth 20000 in
theorem c_sheetAt {h : Hp} (x : Int32)  : Con mX12_sheetAt 1 0 0 [vi x] h (fun v u => u = h ∧ v = some (vi (if x < 0 then 40 else x))) := by
  refine con_of rfl (Nat.le_of_ble_eq_true rfl) (by decide) ?_
  show J mX12_sheetAt 1 0 0 _ 0 [some (vi x)] [] h
  refine j_iload_n dX12_sheetAt_0 rfl ?_
  refine j_if_ge 9 dX12_sheetAt_1 (by decide) (fun c_1 => ?_) (fun c_1 => ?_)
  · refine j_iload_n dX12_sheetAt_9 rfl ?_
    exact j_ireturn dX12_sheetAt_10 rfl rfl (⟨rfl, by simp only [lt_i, le_i, Int32.reduceToInt] at *; first | (rw [if_pos (by omega)]; done) | rw [if_neg (by omega)]⟩)
  · refine j_bipush (v := 40) dX12_sheetAt_4 (by decide) ?_
    refine j_goto 10 dX12_sheetAt_6 (by decide) ?_
    exact j_ireturn dX12_sheetAt_10 rfl rfl (⟨rfl, by simp only [lt_i, le_i, Int32.reduceToInt] at *; first | (rw [if_pos (by omega)]; done) | rw [if_neg (by omega)]⟩)

set_option maxRecDepth 20000 in
theorem c_isSheet {h : Hp} {g : Nat → Nat} (x : Int32) (hm : MW h g) : Con mX12_isSheet 2 0 0 [vr (some (g 0)), vi x] h (fun v u => u = h ∧ v = some (vi (b2 (-1 ≤ x ∧ x ≤ hI h (g 0) 8 - 1)))) := by
  refine con_of rfl (Nat.le_of_ble_eq_true rfl) (by decide) ?_
  show J mX12_isSheet 2 0 0 _ 0 [some (vr (some (g 0))), some (vi x)] [] h
  refine j_iload_n dX12_isSheet_0 rfl ?_
  refine j_iconst (v := -1) dX12_isSheet_1 (by decide) ?_
  refine j_aload_n dX12_isSheet_2 rfl ?_
  refine j_getI dX12_isSheet_3 fl_X12_33 rfl hm.1 ?_
  refine j_iconst (v := 1) dX12_isSheet_6 (by decide) ?_
  refine j_isub dX12_isSheet_7 ?_
  refine j_callS3 dX12_isSheet_8 sl_X12_220 (c_in _ _ _) rfl (by decide) (by omega) (by omega) (Nat.le_of_ble_eq_true rfl) (fun v_8 u_8 p_8 => ?_)
  obtain ⟨e_8, rfl⟩ := p_8
  rw [e_8]
  clear e_8
  dsimp only [rs]
  exact j_ireturn dX12_isSheet_11 rfl b2_nar (⟨rfl, rfl⟩)

set_option maxRecDepth 20000 in
theorem c_head12 {h : Hp} {g : Nat → Nat} (b : Nat) (hb : hI h (g 0) 12 = nI b) (hb6 : b < 6) (hm : MW h g) : Con mX12_head 1 0 0 [vr (some (g 0))] h (fun v u => u = h ∧ v = some (vi (hI h (g 11) b))) := by
  refine con_of rfl (Nat.le_of_ble_eq_true rfl) (by decide) ?_
  show J mX12_head 1 0 0 _ 0 [some (vr (some (g 0)))] [] h
  refine j_aload_n dX12_head_0 rfl ?_
  refine j_getR dX12_head_1 fl_X12_42 rfl hm.1 (mO hm rfl) ?_
  refine j_aload_n dX12_head_4 rfl ?_
  refine j_getI dX12_head_5 fl_X12_857 rfl hm.1 ?_
  rw [hb]
  refine j_iald _ dX12_head_8 (mK hm rfl) (by first | with_reducible rfl | (simp (disch := omega) only [li_1, li_2, li_3, li_4, li_5, li_6, li_7, li_8, li_10, li_20, li_24, li_32, li_40, li_64, li_320, li_39, li_41, li_81, li_121, li_100000, pk_sub, pk_mul, nI_add, inc1, dec1]; with_reducible rfl)) (Nat.lt_of_lt_of_eq (by omega) (mN hm (k := 11) (n := 6) rfl rfl).symm) (Nat.lt_of_le_of_lt (Nat.le_of_eq (mN hm (k := 11) (n := 6) rfl rfl)) (by decide)) ?_
  exact j_ireturn dX12_head_9 rfl rfl (⟨rfl, rfl⟩)

set_option maxRecDepth 20000 in
theorem c_stepAt {h : Hp} {g : Nat → Nat} (a b : Nat) (ha : hI h (g 0) 15 = nI a) (ha2 : a < 40) (hb : b < 40) (hm : MW h g) : Con mX12_stepAt 1 0 0 [vr (some (g 0)), vi (nI b)] h (fun v u => u = h ∧ v = some (vi (nI (41 + (a + b) % 40)))) := by
  refine con_of rfl (Nat.le_of_ble_eq_true rfl) (by decide) ?_
  show J mX12_stepAt 1 0 0 _ 0 [some (vr (some (g 0))), some (vi (nI b))] [] h
  refine j_bipush (v := 41) dX12_stepAt_0 (by decide) ?_
  refine j_aload_n dX12_stepAt_2 rfl ?_
  refine j_getI dX12_stepAt_3 fl_X12_224 rfl hm.1 ?_
  refine j_iload_n dX12_stepAt_6 rfl ?_
  rw [ha]
  refine j_iadd dX12_stepAt_7 ?_
  refine j_bipush (v := 40) dX12_stepAt_8 (by decide) ?_
  refine j_irem dX12_stepAt_10 (by decide) ?_
  refine j_iadd dX12_stepAt_11 ?_
  simp (disch := omega) only [li_40, li_41, nI_add, pk_rem]
  exact j_ireturn dX12_stepAt_12 rfl rfl ⟨rfl, rfl⟩

/-- sheet s as sheet t -/
def cs3 (h : Hp) (g : Nat → Nat) (s t : Nat) : Hp := pI (pI h (g 1) t (hI h (g 1) s)) (g 2) t (hI h (g 2) s)
def cs4 (h : Hp) (g : Nat → Nat) (s t : Nat) : Hp := sI (cs3 h g s t) (g 3) (cpI (hI h (g 3)) (32 * s) (32 * t) 32)
def cs5 (h : Hp) (g : Nat → Nat) (s t : Nat) : Hp := sI (cs4 h g s t) (g 4) (cpI (hI h (g 4)) (10 * s) (10 * t) 10)
def cps (h : Hp) (g : Nat → Nat) (s t : Nat) : Hp := sI (cs5 h g s t) (g 5) (cpI (hI h (g 5)) (320 * s) (320 * t) 320)
set_option maxRecDepth 20000 in
theorem l_cs3 {h : Hp} {g : Nat → Nat} {s t : Nat} {post : Option Sv ⊕ String → Hp → Prop} (hm : MW h g) (hs : s < 122) (ht : t < 122) (fin : J mX12_copySheet 1 0 0 post 60 [some (vr (some (g 0))), some (vi (nI s)), some (vi (nI t)), none] [] (sI h (g 3) (cpI (hI h (g 3)) (32 * s) (32 * t) 32))) : ∀ (n : Nat) (i : Nat), 32 - i < n → i ≤ 32 → J mX12_copySheet 1 0 0 post 26 [some (vr (some (g 0))), some (vi (nI s)), some (vi (nI t)), some (vi (nI i))] [] (sI h (g 3) (cpI (hI h (g 3)) (32 * s) (32 * t) i)) := by
  intro n
  induction n with
  | zero => intro i hlt; omega
  | succ n ih =>
    intro i hlt hinv
    refine j_iload_n dX12_copySheet_26 rfl ?_
    refine j_bipush (v := 32) dX12_copySheet_27 (by decide) ?_
    refine j_icmp_ge 60 dX12_copySheet_29 (by decide) (fun c_29 => ?_) (fun c_29 => ?_)
    · rw [li_32, nI_leI (by omega) (by omega)] at c_29
      have he : i = 32 := by omega
      subst he
      exact j_lle (by simp [lle]) fin
    · have hlt2 : i < 32 := by rw [li_32, nI_leI (by omega) (by omega)] at c_29; omega
      refine j_aload_n dX12_copySheet_32 rfl ?_
      refine j_getR dX12_copySheet_33 fl_X12_16 rfl hm.1 (mO hm rfl) ?_
      refine j_bipush (v := 32) dX12_copySheet_36 (by decide) ?_
      refine j_iload_n dX12_copySheet_38 rfl ?_
      refine j_imul dX12_copySheet_39 ?_
      refine j_iload_n dX12_copySheet_40 rfl ?_
      refine j_iadd dX12_copySheet_41 ?_
      refine j_aload_n dX12_copySheet_42 rfl ?_
      refine j_getR dX12_copySheet_43 fl_X12_16 rfl hm.1 (mO hm rfl) ?_
      refine j_bipush (v := 32) dX12_copySheet_46 (by decide) ?_
      refine j_iload_n dX12_copySheet_48 rfl ?_
      refine j_imul dX12_copySheet_49 ?_
      refine j_iload_n dX12_copySheet_50 rfl ?_
      refine j_iadd dX12_copySheet_51 ?_
      refine j_iald _ dX12_copySheet_52 (mK hm rfl) (by first | with_reducible rfl | (simp (disch := omega) only [li_1, li_2, li_3, li_4, li_5, li_6, li_7, li_8, li_10, li_20, li_24, li_32, li_40, li_64, li_320, li_39, li_41, li_81, li_121, li_100000, pk_sub, pk_mul, nI_add, inc1, dec1]; with_reducible rfl)) (Nat.lt_of_lt_of_eq (by omega) (mN hm (k := 3) (n := 3904) rfl rfl).symm) (Nat.lt_of_le_of_lt (Nat.le_of_eq (mN hm (k := 3) (n := 3904) rfl rfl)) (by decide)) ?_
      refine j_iast _ dX12_copySheet_53 (mK hm rfl) (by first | with_reducible rfl | (simp (disch := omega) only [li_1, li_2, li_3, li_4, li_5, li_6, li_7, li_8, li_10, li_20, li_24, li_32, li_40, li_64, li_320, li_39, li_41, li_81, li_121, li_100000, pk_sub, pk_mul, nI_add, inc1, dec1]; with_reducible rfl)) (Nat.lt_of_lt_of_eq (by omega) (mN hm (k := 3) (n := 3904) rfl rfl).symm) (Nat.lt_of_le_of_lt (Nat.le_of_eq (mN hm (k := 3) (n := 3904) rfl rfl)) (by decide)) ?_
      refine j_iinc dX12_copySheet_54 rfl ?_
      dsimp only [st1, st2, unL, List.set]
      refine j_goto 26 dX12_copySheet_57 (by decide) ?_
      rw [pI_sI, hI_sI1, cpI_step (n := 32) (by omega) hlt2]
      refine j_lle (lv' := [some (vr (some (g 0))), some (vi (nI s)), some (vi (nI t)), some (vi (nI (i + 1)))]) (by simp [lle, nI_1]) ?_
      exact ih (i + 1) (by omega) (by omega)

set_option maxRecDepth 20000 in
theorem l_cs4 {h : Hp} {g : Nat → Nat} {s t : Nat} {post : Option Sv ⊕ String → Hp → Prop} (hm : MW h g) (hs : s < 122) (ht : t < 122) (fin : J mX12_copySheet 1 0 0 post 96 [some (vr (some (g 0))), some (vi (nI s)), some (vi (nI t)), none] [] (sI h (g 4) (cpI (hI h (g 4)) (10 * s) (10 * t) 10))) : ∀ (n : Nat) (i : Nat), 10 - i < n → i ≤ 10 → J mX12_copySheet 1 0 0 post 62 [some (vr (some (g 0))), some (vi (nI s)), some (vi (nI t)), some (vi (nI i))] [] (sI h (g 4) (cpI (hI h (g 4)) (10 * s) (10 * t) i)) := by
  intro n
  induction n with
  | zero => intro i hlt; omega
  | succ n ih =>
    intro i hlt hinv
    refine j_iload_n dX12_copySheet_62 rfl ?_
    refine j_bipush (v := 10) dX12_copySheet_63 (by decide) ?_
    refine j_icmp_ge 96 dX12_copySheet_65 (by decide) (fun c_65 => ?_) (fun c_65 => ?_)
    · rw [li_10, nI_leI (by omega) (by omega)] at c_65
      have he : i = 10 := by omega
      subst he
      exact j_lle (by simp [lle]) fin
    · have hlt2 : i < 10 := by rw [li_10, nI_leI (by omega) (by omega)] at c_65; omega
      refine j_aload_n dX12_copySheet_68 rfl ?_
      refine j_getR dX12_copySheet_69 fl_X12_19 rfl hm.1 (mO hm rfl) ?_
      refine j_bipush (v := 10) dX12_copySheet_72 (by decide) ?_
      refine j_iload_n dX12_copySheet_74 rfl ?_
      refine j_imul dX12_copySheet_75 ?_
      refine j_iload_n dX12_copySheet_76 rfl ?_
      refine j_iadd dX12_copySheet_77 ?_
      refine j_aload_n dX12_copySheet_78 rfl ?_
      refine j_getR dX12_copySheet_79 fl_X12_19 rfl hm.1 (mO hm rfl) ?_
      refine j_bipush (v := 10) dX12_copySheet_82 (by decide) ?_
      refine j_iload_n dX12_copySheet_84 rfl ?_
      refine j_imul dX12_copySheet_85 ?_
      refine j_iload_n dX12_copySheet_86 rfl ?_
      refine j_iadd dX12_copySheet_87 ?_
      refine j_iald _ dX12_copySheet_88 (mK hm rfl) (by first | with_reducible rfl | (simp (disch := omega) only [li_1, li_2, li_3, li_4, li_5, li_6, li_7, li_8, li_10, li_20, li_24, li_32, li_40, li_64, li_320, li_39, li_41, li_81, li_121, li_100000, pk_sub, pk_mul, nI_add, inc1, dec1]; with_reducible rfl)) (Nat.lt_of_lt_of_eq (by omega) (mN hm (k := 4) (n := 1220) rfl rfl).symm) (Nat.lt_of_le_of_lt (Nat.le_of_eq (mN hm (k := 4) (n := 1220) rfl rfl)) (by decide)) ?_
      refine j_iast _ dX12_copySheet_89 (mK hm rfl) (by first | with_reducible rfl | (simp (disch := omega) only [li_1, li_2, li_3, li_4, li_5, li_6, li_7, li_8, li_10, li_20, li_24, li_32, li_40, li_64, li_320, li_39, li_41, li_81, li_121, li_100000, pk_sub, pk_mul, nI_add, inc1, dec1]; with_reducible rfl)) (Nat.lt_of_lt_of_eq (by omega) (mN hm (k := 4) (n := 1220) rfl rfl).symm) (Nat.lt_of_le_of_lt (Nat.le_of_eq (mN hm (k := 4) (n := 1220) rfl rfl)) (by decide)) ?_
      refine j_iinc dX12_copySheet_90 rfl ?_
      dsimp only [st1, st2, unL, List.set]
      refine j_goto 62 dX12_copySheet_93 (by decide) ?_
      rw [pI_sI, hI_sI1, cpI_step (n := 10) (by omega) hlt2]
      refine j_lle (lv' := [some (vr (some (g 0))), some (vi (nI s)), some (vi (nI t)), some (vi (nI (i + 1)))]) (by simp [lle, nI_1]) ?_
      exact ih (i + 1) (by omega) (by omega)

set_option maxRecDepth 20000 in
theorem l_cs5 {h : Hp} {g : Nat → Nat} {s t : Nat} {post : Option Sv ⊕ String → Hp → Prop} (hm : MW h g) (hs : s < 122) (ht : t < 122) (fin : J mX12_copySheet 1 0 0 post 135 [some (vr (some (g 0))), some (vi (nI s)), some (vi (nI t)), none] [] (sI h (g 5) (cpI (hI h (g 5)) (320 * s) (320 * t) 320))) : ∀ (n : Nat) (i : Nat), 320 - i < n → i ≤ 320 → J mX12_copySheet 1 0 0 post 98 [some (vr (some (g 0))), some (vi (nI s)), some (vi (nI t)), some (vi (nI i))] [] (sI h (g 5) (cpI (hI h (g 5)) (320 * s) (320 * t) i)) := by
  intro n
  induction n with
  | zero => intro i hlt; omega
  | succ n ih =>
    intro i hlt hinv
    refine j_iload_n dX12_copySheet_98 rfl ?_
    refine j_sipush (v := 320) dX12_copySheet_99 (by decide) ?_
    refine j_icmp_ge 135 dX12_copySheet_102 (by decide) (fun c_102 => ?_) (fun c_102 => ?_)
    · rw [li_320, nI_leI (by omega) (by omega)] at c_102
      have he : i = 320 := by omega
      subst he
      exact j_lle (by simp [lle]) fin
    · have hlt2 : i < 320 := by rw [li_320, nI_leI (by omega) (by omega)] at c_102; omega
      refine j_aload_n dX12_copySheet_105 rfl ?_
      refine j_getR dX12_copySheet_106 fl_X12_23 rfl hm.1 (mO hm rfl) ?_
      refine j_sipush (v := 320) dX12_copySheet_109 (by decide) ?_
      refine j_iload_n dX12_copySheet_112 rfl ?_
      refine j_imul dX12_copySheet_113 ?_
      refine j_iload_n dX12_copySheet_114 rfl ?_
      refine j_iadd dX12_copySheet_115 ?_
      refine j_aload_n dX12_copySheet_116 rfl ?_
      refine j_getR dX12_copySheet_117 fl_X12_23 rfl hm.1 (mO hm rfl) ?_
      refine j_sipush (v := 320) dX12_copySheet_120 (by decide) ?_
      refine j_iload_n dX12_copySheet_123 rfl ?_
      refine j_imul dX12_copySheet_124 ?_
      refine j_iload_n dX12_copySheet_125 rfl ?_
      refine j_iadd dX12_copySheet_126 ?_
      refine j_iald _ dX12_copySheet_127 (mK hm rfl) (by first | with_reducible rfl | (simp (disch := omega) only [li_1, li_2, li_3, li_4, li_5, li_6, li_7, li_8, li_10, li_20, li_24, li_32, li_40, li_64, li_320, li_39, li_41, li_81, li_121, li_100000, pk_sub, pk_mul, nI_add, inc1, dec1]; with_reducible rfl)) (Nat.lt_of_lt_of_eq (by omega) (mN hm (k := 5) (n := 39040) rfl rfl).symm) (Nat.lt_of_le_of_lt (Nat.le_of_eq (mN hm (k := 5) (n := 39040) rfl rfl)) (by decide)) ?_
      refine j_iast _ dX12_copySheet_128 (mK hm rfl) (by first | with_reducible rfl | (simp (disch := omega) only [li_1, li_2, li_3, li_4, li_5, li_6, li_7, li_8, li_10, li_20, li_24, li_32, li_40, li_64, li_320, li_39, li_41, li_81, li_121, li_100000, pk_sub, pk_mul, nI_add, inc1, dec1]; with_reducible rfl)) (Nat.lt_of_lt_of_eq (by omega) (mN hm (k := 5) (n := 39040) rfl rfl).symm) (Nat.lt_of_le_of_lt (Nat.le_of_eq (mN hm (k := 5) (n := 39040) rfl rfl)) (by decide)) ?_
      refine j_iinc dX12_copySheet_129 rfl ?_
      dsimp only [st1, st2, unL, List.set]
      refine j_goto 98 dX12_copySheet_132 (by decide) ?_
      rw [pI_sI, hI_sI1, cpI_step (n := 320) (by omega) hlt2]
      refine j_lle (lv' := [some (vr (some (g 0))), some (vi (nI s)), some (vi (nI t)), some (vi (nI (i + 1)))]) (by simp [lle, nI_1]) ?_
      exact ih (i + 1) (by omega) (by omega)

set_option maxRecDepth 20000 in
theorem e_cs135 {h : Hp} {g : Nat → Nat} {s t : Nat} (hm : MW h g) (hs : s < 122) (ht : t < 122) : J mX12_copySheet 1 0 0 (nx (fun v u => u = (if t = 40 then pI (cps h g s t) (g 0) 65 0 else cps h g s t) ∧ v = none)) 135 [some (vr (some (g 0))), some (vi (nI s)), some (vi (nI t)), none] [] (cps h g s t) := by
  refine j_iload_n dX12_copySheet_135 rfl ?_
  refine j_bipush (v := 40) dX12_copySheet_136 (by decide) ?_
  refine j_icmp_ne 146 dX12_copySheet_138 (by decide) (fun c_138 => ?_) (fun c_138 => ?_)
  · first | exact j_return dX12_copySheet_146 rfl ⟨by rw [if_pos ht40], rfl⟩ | exact j_return dX12_copySheet_146 rfl ⟨by rw [li_40, Ne, nI_eq (by omega) (by omega)] at c_138; rw [if_neg c_138], rfl⟩
  · have ht40 : t = 40 := by have q := Classical.not_not.mp c_138; rw [li_40, nI_eq (by omega) (by omega)] at q; exact q
    refine j_aload_n dX12_copySheet_141 rfl ?_
    refine j_iconst (v := 0) dX12_copySheet_142 (by decide) ?_
    refine j_putI dX12_copySheet_143 fl_X12_205 rfl rfl rfl hm.1 ?_
    first | exact j_return dX12_copySheet_146 rfl ⟨by rw [if_pos ht40], rfl⟩ | exact j_return dX12_copySheet_146 rfl ⟨by rw [li_40, Ne, nI_eq (by omega) (by omega)] at c_138; rw [if_neg c_138], rfl⟩

set_option maxRecDepth 20000 in
theorem e_cs96 {h : Hp} {g : Nat → Nat} {s t : Nat} (hm : MW h g) (hs : s < 122) (ht : t < 122) : J mX12_copySheet 1 0 0 (nx (fun v u => u = (if t = 40 then pI (cps h g s t) (g 0) 65 0 else cps h g s t) ∧ v = none)) 96 [some (vr (some (g 0))), some (vi (nI s)), some (vi (nI t)), none] [] (cs5 h g s t) := by
  refine j_iconst (v := 0) dX12_copySheet_96 (by decide) ?_
  refine j_istore_n dX12_copySheet_97 (by decide) ?_
  dsimp only [st1, st2, unL, List.set]
  refine j_lle (lv' := [some (vr (some (g 0))), some (vi (nI s)), some (vi (nI t)), some (vi (nI 0))]) (by simp [lle]; rfl) ?_
  have z : sI (cs5 h g s t) (g 5) (cpI (hI (cs5 h g s t) (g 5)) (320 * s) (320 * t) 0) = cs5 h g s t := by rw [cpI_0, sI_self]
  have e : hI (cs5 h g s t) (g 5) = hI h (g 5) := by
    funext j
    simp [cs5, cs4, cs3, hI_sI, hI_pI, mNe hm (i := 5) (j := 1) rfl rfl rfl, mNe hm (i := 5) (j := 2) rfl rfl rfl, mNe hm (i := 4) (j := 3) rfl rfl rfl, mNe hm (i := 5) (j := 3) rfl rfl rfl, mNe hm (i := 5) (j := 4) rfl rfl rfl]
  rw [← z]
  refine l_cs5 (h := cs5 h g s t) hm hs ht ?_ 321 0 (by omega) (by omega)
  rw [e]
  exact e_cs135 hm hs ht

set_option maxRecDepth 20000 in
theorem e_cs60 {h : Hp} {g : Nat → Nat} {s t : Nat} (hm : MW h g) (hs : s < 122) (ht : t < 122) : J mX12_copySheet 1 0 0 (nx (fun v u => u = (if t = 40 then pI (cps h g s t) (g 0) 65 0 else cps h g s t) ∧ v = none)) 60 [some (vr (some (g 0))), some (vi (nI s)), some (vi (nI t)), none] [] (cs4 h g s t) := by
  refine j_iconst (v := 0) dX12_copySheet_60 (by decide) ?_
  refine j_istore_n dX12_copySheet_61 (by decide) ?_
  dsimp only [st1, st2, unL, List.set]
  refine j_lle (lv' := [some (vr (some (g 0))), some (vi (nI s)), some (vi (nI t)), some (vi (nI 0))]) (by simp [lle]; rfl) ?_
  have z : sI (cs4 h g s t) (g 4) (cpI (hI (cs4 h g s t) (g 4)) (10 * s) (10 * t) 0) = cs4 h g s t := by rw [cpI_0, sI_self]
  have e : hI (cs4 h g s t) (g 4) = hI h (g 4) := by
    funext j
    simp [cs5, cs4, cs3, hI_sI, hI_pI, mNe hm (i := 4) (j := 1) rfl rfl rfl, mNe hm (i := 4) (j := 2) rfl rfl rfl, mNe hm (i := 4) (j := 3) rfl rfl rfl, mNe hm (i := 5) (j := 3) rfl rfl rfl, mNe hm (i := 5) (j := 4) rfl rfl rfl]
  rw [← z]
  refine l_cs4 (h := cs4 h g s t) hm hs ht ?_ 11 0 (by omega) (by omega)
  rw [e]
  exact e_cs96 hm hs ht

set_option maxRecDepth 20000 in
theorem c_copySheet {h : Hp} {g : Nat → Nat} {s t : Nat} (hm : MW h g) (hs : s < 122) (ht : t < 122) : Con mX12_copySheet 1 0 0 [vr (some (g 0)), vi (nI s), vi (nI t)] h (fun v u => u = (if t = 40 then pI (cps h g s t) (g 0) 65 0 else cps h g s t) ∧ v = none) := by
  refine con_of rfl (Nat.le_of_ble_eq_true rfl) (by decide) ?_
  show J mX12_copySheet 1 0 0 _ 0 [some (vr (some (g 0))), some (vi (nI s)), some (vi (nI t)), none] [] h
  refine j_aload_n dX12_copySheet_0 rfl ?_
  refine j_getR dX12_copySheet_1 fl_X12_7 rfl hm.1 (mO hm rfl) ?_
  refine j_iload_n dX12_copySheet_4 rfl ?_
  refine j_aload_n dX12_copySheet_5 rfl ?_
  refine j_getR dX12_copySheet_6 fl_X12_7 rfl hm.1 (mO hm rfl) ?_
  refine j_iload_n dX12_copySheet_9 rfl ?_
  refine j_iald _ dX12_copySheet_10 (mK hm rfl) (by first | with_reducible rfl | (simp (disch := omega) only [li_1, li_2, li_3, li_4, li_5, li_6, li_7, li_8, li_10, li_20, li_24, li_32, li_40, li_64, li_320, li_39, li_41, li_81, li_121, li_100000, pk_sub, pk_mul, nI_add, inc1, dec1]; with_reducible rfl)) (Nat.lt_of_lt_of_eq (by omega) (mN hm (k := 1) (n := 122) rfl rfl).symm) (Nat.lt_of_le_of_lt (Nat.le_of_eq (mN hm (k := 1) (n := 122) rfl rfl)) (by decide)) ?_
  refine j_iast _ dX12_copySheet_11 (mK hm rfl) (by first | with_reducible rfl | (simp (disch := omega) only [li_1, li_2, li_3, li_4, li_5, li_6, li_7, li_8, li_10, li_20, li_24, li_32, li_40, li_64, li_320, li_39, li_41, li_81, li_121, li_100000, pk_sub, pk_mul, nI_add, inc1, dec1]; with_reducible rfl)) (Nat.lt_of_lt_of_eq (by omega) (mN hm (k := 1) (n := 122) rfl rfl).symm) (Nat.lt_of_le_of_lt (Nat.le_of_eq (mN hm (k := 1) (n := 122) rfl rfl)) (by decide)) ?_
  refine j_aload_n dX12_copySheet_12 rfl ?_
  refine j_getR dX12_copySheet_13 fl_X12_13 rfl hm.1 (mO hm rfl) ?_
  refine j_iload_n dX12_copySheet_16 rfl ?_
  refine j_aload_n dX12_copySheet_17 rfl ?_
  refine j_getR dX12_copySheet_18 fl_X12_13 rfl hm.1 (mO hm rfl) ?_
  refine j_iload_n dX12_copySheet_21 rfl ?_
  refine j_iald _ dX12_copySheet_22 (mK hm rfl) (by first | with_reducible rfl | (simp (disch := omega) only [li_1, li_2, li_3, li_4, li_5, li_6, li_7, li_8, li_10, li_20, li_24, li_32, li_40, li_64, li_320, li_39, li_41, li_81, li_121, li_100000, pk_sub, pk_mul, nI_add, inc1, dec1]; with_reducible rfl)) (Nat.lt_of_lt_of_eq (by omega) (mN hm (k := 2) (n := 122) rfl rfl).symm) (Nat.lt_of_le_of_lt (Nat.le_of_eq (mN hm (k := 2) (n := 122) rfl rfl)) (by decide)) ?_
  refine j_iast _ dX12_copySheet_23 (mK hm rfl) (by first | with_reducible rfl | (simp (disch := omega) only [li_1, li_2, li_3, li_4, li_5, li_6, li_7, li_8, li_10, li_20, li_24, li_32, li_40, li_64, li_320, li_39, li_41, li_81, li_121, li_100000, pk_sub, pk_mul, nI_add, inc1, dec1]; with_reducible rfl)) (Nat.lt_of_lt_of_eq (by omega) (mN hm (k := 2) (n := 122) rfl rfl).symm) (Nat.lt_of_le_of_lt (Nat.le_of_eq (mN hm (k := 2) (n := 122) rfl rfl)) (by decide)) ?_
  refine j_iconst (v := 0) dX12_copySheet_24 (by decide) ?_
  refine j_istore_n dX12_copySheet_25 (by decide) ?_
  dsimp only [st1, st2, unL, List.set]
  have e1 : hI (pI h (g 1) t (hI h (g 1) s)) (g 2) s = hI h (g 2) s := by rw [hI_pI, if_neg (fun q => mNe hm (i := 2) (j := 1) rfl rfl rfl q.1)]
  rw [e1]
  change J mX12_copySheet 1 0 0 _ 26 _ [] (cs3 h g s t)
  refine j_lle (lv' := [some (vr (some (g 0))), some (vi (nI s)), some (vi (nI t)), some (vi (nI 0))]) (by simp [lle]; rfl) ?_
  have z : sI (cs3 h g s t) (g 3) (cpI (hI (cs3 h g s t) (g 3)) (32 * s) (32 * t) 0) = cs3 h g s t := by rw [cpI_0, sI_self]
  have e : hI (cs3 h g s t) (g 3) = hI h (g 3) := by
    funext j
    simp [cs5, cs4, cs3, hI_sI, hI_pI, mNe hm (i := 3) (j := 1) rfl rfl rfl, mNe hm (i := 3) (j := 2) rfl rfl rfl, mNe hm (i := 4) (j := 3) rfl rfl rfl, mNe hm (i := 5) (j := 3) rfl rfl rfl, mNe hm (i := 5) (j := 4) rfl rfl rfl]
  rw [← z]
  refine l_cs3 (h := cs3 h g s t) hm hs ht ?_ 33 0 (by omega) (by omega)
  rw [e]
  exact e_cs60 hm hs ht

