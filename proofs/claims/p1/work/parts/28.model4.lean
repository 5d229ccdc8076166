/-! ===== the model on a fresh object, versions and acts ===== -/
theorem sw_3 (x : Int32) : (x.toInt < 0 ∨ 3 < x.toInt) ∨ x = 0 ∨ x = 1 ∨ x = 2 ∨ x = 3 := by
  by_cases h : x.toInt < 0 ∨ 3 < x.toInt
  · exact Or.inl h
  · right
    simp only [eq_i, Int32.reduceToInt]; omega
theorem sw_9 (x : Int32) : (x.toInt < 0 ∨ 9 < x.toInt) ∨ x = 0 ∨ x = 1 ∨ x = 2 ∨ x = 3 ∨ x = 4 ∨ x = 5 ∨ x = 6 ∨ x = 7 ∨ x = 8 ∨ x = 9 := by
  by_cases h : x.toInt < 0 ∨ 9 < x.toInt
  · exact Or.inl h
  · right
    simp only [eq_i, Int32.reduceToInt]; omega
theorem sw_29 (x : Int32) : (x.toInt < 0 ∨ 29 < x.toInt) ∨ x = 0 ∨ x = 1 ∨ x = 2 ∨ x = 3 ∨ x = 4 ∨ x = 5 ∨ x = 6 ∨ x = 7 ∨ x = 8 ∨ x = 9 ∨ x = 10 ∨ x = 11 ∨ x = 12 ∨ x = 13 ∨ x = 14 ∨ x = 15 ∨ x = 16 ∨ x = 17 ∨ x = 18 ∨ x = 19 ∨ x = 20 ∨ x = 21 ∨ x = 22 ∨ x = 23 ∨ x = 24 ∨ x = 25 ∨ x = 26 ∨ x = 27 ∨ x = 28 ∨ x = 29 := by
  by_cases h : x.toInt < 0 ∨ 29 < x.toInt
  · exact Or.inl h
  · right
    simp only [eq_i, Int32.reduceToInt]; omega
def anc (n : Nat) (f : Nat → Int32) : Nat → Int32 := fun j => if j < n then (if j = 0 then 1 else 0) else f j
theorem anc_step (n : Nat) (f : Nat → Int32) (x : Int32) (hx : x = if n = 0 then 1 else 0) : upd (anc n f) n x = anc (n + 1) f := by
  funext j
  by_cases h : j = n
  · subst h; simp [upd, anc, hx]
  · simp only [upd, if_neg h, anc]
    by_cases q : j < n
    · simp [q, show j < n + 1 by omega]
    · simp [q, show ¬ j < n + 1 by omega]
set_option maxRecDepth 20000 in
theorem l_anc0 {h : Hp} {g : Nat → Nat} {r : Nat} {post : Option Sv ⊕ String → Hp → Prop} (hm : MW h g) (hkr : hK h (g r) = 17) (hnr : hN h (g r) = 40) (fin : post (.inl none) (sI h (g r) (anc 40 (hI h (g r))))) : ∀ (n : Nat) (i : Nat), 40 - i < n → i ≤ 40 → J mX12_ancestors 1 0 0 post 2 [some (vr (some (g 0))), some (vi 0), some (vr (some (g r))), some (vi (nI i))] [] (sI h (g r) (anc i (hI h (g r)))) := by
  intro n
  induction n with
  | zero => intro i hlt; omega
  | succ n ih =>
    intro i hlt hinv
    refine j_iload_n dX12_ancestors_2 rfl ?_
    refine j_bipush (v := 40) dX12_ancestors_3 (by decide) ?_
    refine j_icmp_ge 27 dX12_ancestors_5 (by decide) (fun c_5 => ?_) (fun c_5 => ?_)
    · have he : i = 40 := by rw [li_40, nI_leI (by omega) (by omega)] at c_5; omega
      subst he
      refine j_iload_n dX12_ancestors_27 rfl ?_
      refine j_istore_n dX12_ancestors_28 (by decide) ?_
      dsimp only [st1, st2, unL, List.set]
      refine j_iload_n dX12_ancestors_29 rfl ?_
      refine j_if_le 72 dX12_ancestors_30 (by decide) (fun c_30 => ?_) (fun c_30 => ?_)
      · exact j_return dX12_ancestors_72 rfl fin
      · exact absurd (by decide) c_30
    · have hlt2 : i < 40 := by rw [li_40, nI_leI (by omega) (by omega)] at c_5; omega
      refine j_aload_n dX12_ancestors_8 rfl ?_
      refine j_iload_n dX12_ancestors_9 rfl ?_
      refine j_iload_n dX12_ancestors_10 rfl ?_
      refine j_iload_n dX12_ancestors_11 rfl ?_
      refine j_icmp_ne 19 dX12_ancestors_12 (by decide) (fun c_12 => ?_) (fun c_12 => ?_)
      · refine j_iconst (v := 0) dX12_ancestors_19 (by decide) ?_
        refine j_zast i dX12_ancestors_20 hkr rfl (Nat.lt_of_lt_of_eq hlt2 hnr.symm) (Nat.lt_of_le_of_lt (Nat.le_of_eq hnr) (by decide)) (by rfl) ?_
        rw [pI_sI, anc_step i _ _ (by first | exact (if_pos (by have w := Classical.not_not.mp c_12; rw [li_0, nI_eq (by omega) (by omega)] at w; exact w)).symm | exact (if_neg (by rw [li_0, Ne, nI_eq (by omega) (by omega)] at c_12; exact c_12)).symm)]
        refine j_iinc dX12_ancestors_21 rfl ?_
        dsimp only [st1, st2, unL, List.set]
        refine j_goto 2 dX12_ancestors_24 (by decide) ?_
        refine j_lle (lv' := [some (vr (some (g 0))), some (vi 0), some (vr (some (g r))), some (vi (nI (i + 1)))]) (by simp [lle, nI_1]) ?_
        exact ih (i + 1) (by omega) (by omega)
      · refine j_iconst (v := 1) dX12_ancestors_15 (by decide) ?_
        refine j_goto 20 dX12_ancestors_16 (by decide) ?_
        refine j_zast i dX12_ancestors_20 hkr rfl (Nat.lt_of_lt_of_eq hlt2 hnr.symm) (Nat.lt_of_le_of_lt (Nat.le_of_eq hnr) (by decide)) (by rfl) ?_
        rw [pI_sI, anc_step i _ _ (by first | exact (if_pos (by have w := Classical.not_not.mp c_12; rw [li_0, nI_eq (by omega) (by omega)] at w; exact w)).symm | exact (if_neg (by rw [li_0, Ne, nI_eq (by omega) (by omega)] at c_12; exact c_12)).symm)]
        refine j_iinc dX12_ancestors_21 rfl ?_
        dsimp only [st1, st2, unL, List.set]
        refine j_goto 2 dX12_ancestors_24 (by decide) ?_
        refine j_lle (lv' := [some (vr (some (g 0))), some (vi 0), some (vr (some (g r))), some (vi (nI (i + 1)))]) (by simp [lle, nI_1]) ?_
        exact ih (i + 1) (by omega) (by omega)

set_option maxRecDepth 20000 in
theorem c_anc0 {h : Hp} {g : Nat → Nat} {r : Nat} (hm : MW h g) (hkr : hK h (g r) = 17) (hnr : hN h (g r) = 40) : Con mX12_ancestors 1 0 0 [vr (some (g 0)), vi 0, vr (some (g r))] h (fun v u => u = sI h (g r) (anc 40 (hI h (g r))) ∧ v = none) := by
  refine con_of rfl (Nat.le_of_ble_eq_true rfl) (by decide) ?_
  show J mX12_ancestors 1 0 0 _ 0 [some (vr (some (g 0))), some (vi 0), some (vr (some (g r))), none] [] h
  refine j_iconst (v := 0) dX12_ancestors_0 (by decide) ?_
  refine j_istore_n dX12_ancestors_1 (by decide) ?_
  dsimp only [st1, st2, unL, List.set]
  refine j_lle (lv' := [some (vr (some (g 0))), some (vi 0), some (vr (some (g r))), some (vi (nI 0))]) (by simp [lle]; rfl) ?_
  have z : sI h (g r) (anc 0 (hI h (g r))) = h := by
    have : anc 0 (hI h (g r)) = hI h (g r) := by funext j; simp [anc]
    rw [this, sI_self]
  rw [← z]
  refine l_anc0 (h := h) hm hkr hnr ?_ 41 0 (by omega) (by omega)
  exact ⟨by rw [z], rfl⟩

set_option maxRecDepth 20000 in
theorem e_base {h : Hp} {g : Nat → Nat} (x y : Int32) (hf : FM h g) : Con mX12_base 2 0 0 [vr (some (g 0)), vi x, vi y] h (an g (if x = 0 ∧ y = 0 then 0 else -1) 0) := by
  obtain ⟨hm, z0, z1, z2, z3, z4, z5, z9, z10, z11, z64⟩ := id hf
  refine con_of rfl (Nat.le_of_ble_eq_true rfl) (by decide) ?_
  show J mX12_base 2 0 0 _ 0 [some (vr (some (g 0))), some (vi x), some (vi y), none] [] h
  refine j_aload_n dX12_base_0 rfl ?_
  refine j_iconst (v := 0) dX12_base_1 (by decide) ?_
  refine j_putI dX12_base_2 fl_X12_202 rfl rfl rfl hm.1 ?_
  rw [pI_same (fmI z0 0 (v := 0) rfl)]
  refine j_iload_n dX12_base_5 rfl ?_
  refine j_iconst (v := 0) dX12_base_6 (by decide) ?_
  refine j_aload_n dX12_base_7 rfl ?_
  refine j_getI dX12_base_8 fl_X12_33 rfl hm.1 ?_
  rw [fmI z0 8 (v := 1) rfl]
  refine j_iconst (v := 1) dX12_base_11 (by decide) ?_
  refine j_isub dX12_base_12 ?_
  refine j_callS3 dX12_base_13 sl_X12_220 (c_in _ _ _) rfl (by decide) (by omega) (by omega) (Nat.le_of_ble_eq_true rfl) (fun v_13 u_13 p_13 => ?_)
  obtain ⟨e_13, rfl⟩ := p_13
  rw [e_13]
  clear e_13
  dsimp only [rs]
  refine j_if_eq 33 dX12_base_16 (by decide) (fun c_16 => ?_) (fun c_16 => ?_)
  · have hxy : ¬ (x = 0 ∧ y = 0) := fun w => by
      first | exact absurd (b2_0.mp c_16) (by rw [w.1]; decide) | exact absurd (b2_0.mp (Classical.not_not.mp c_30)) (by rw [w.2]; decide)
    refine j_iconst (v := -1) dX12_base_33 (by decide) ?_
    exact j_ireturn dX12_base_34 rfl rfl ⟨by rw [if_neg hxy], hm, fmI z0 0 rfl⟩
  · refine j_iload_n dX12_base_19 rfl ?_
    refine j_iconst (v := 0) dX12_base_20 (by decide) ?_
    refine j_aload_n dX12_base_21 rfl ?_
    refine j_getI dX12_base_22 fl_X12_33 rfl hm.1 ?_
    rw [fmI z0 8 (v := 1) rfl]
    refine j_iconst (v := 1) dX12_base_25 (by decide) ?_
    refine j_isub dX12_base_26 ?_
    refine j_callS3 dX12_base_27 sl_X12_220 (c_in _ _ _) rfl (by decide) (by omega) (by omega) (Nat.le_of_ble_eq_true rfl) (fun v_27 u_27 p_27 => ?_)
    obtain ⟨e_27, rfl⟩ := p_27
    rw [e_27]
    clear e_27
    dsimp only [rs]
    refine j_if_ne 35 dX12_base_30 (by decide) (fun c_30 => ?_) (fun c_30 => ?_)
    · have qx := b2_nn.mp c_16
      have qy := b2_n.mp c_30
      have hx0 : x = 0 := by simp only [le_i, eq_i, Int32.reduceToInt, show ((1 : Int32) - 1).toInt = 0 from rfl] at *; omega
      have hy0 : y = 0 := by simp only [le_i, eq_i, Int32.reduceToInt, show ((1 : Int32) - 1).toInt = 0 from rfl] at *; omega
      subst hx0
      subst hy0
      refine j_aload_n dX12_base_35 rfl ?_
      refine j_iload_n dX12_base_36 rfl ?_
      refine j_aload_n dX12_base_37 rfl ?_
      refine j_getR dX12_base_38 fl_X12_159 rfl hm.1 (mO hm rfl) ?_
      refine j_callV2 dX12_base_41 vl_X12_883 (c_anc0 (r := 89) hm (mK hm rfl) (mN hm (k := 89) (n := 40) rfl rfl)) hm.1 rfl (by decide) (by omega) (by omega) (Nat.le_of_ble_eq_true rfl) (fun v_41 u_41 p_41 => ?_)
      obtain ⟨e_, rfl⟩ := p_41
      rw [e_]
      clear e_
      dsimp only [rs]
      refine j_aload_n dX12_base_44 rfl ?_
      refine j_iload_n dX12_base_45 rfl ?_
      refine j_aload_n dX12_base_46 rfl ?_
      refine j_getR dX12_base_47 fl_X12_162 rfl hm.1 (mO hm rfl) ?_
      refine j_callV2 dX12_base_50 vl_X12_883 (c_anc0 (h := sI h (g 89) (anc 40 (hI h (g 89)))) (r := 90) hm (mK hm rfl) (mN hm (k := 90) (n := 40) rfl rfl)) hm.1 rfl (by decide) (by omega) (by omega) (Nat.le_of_ble_eq_true rfl) (fun v_50 u_50 p_50 => ?_)
      obtain ⟨e_, rfl⟩ := p_50
      rw [e_]
      clear e_
      dsimp only [rs]
      refine j_aload_n dX12_base_53 rfl ?_
      refine j_getI dX12_base_54 fl_X12_33 rfl hm.1 ?_
      rw [show hI (sI (sI h (g 89) (anc 40 (hI h (g 89)))) (g 90) (anc 40 (hI (sI h (g 89) (anc 40 (hI h (g 89)))) (g 90)))) (g 0) 8 = 1 by rw [hI_sI, if_neg (mNe hm (i := 0) (j := 90) rfl rfl rfl), hI_sI, if_neg (mNe hm (i := 0) (j := 89) rfl rfl rfl)]; exact fmI z0 8 rfl]
      refine j_iconst (v := 1) dX12_base_57 (by decide) ?_
      refine j_isub dX12_base_58 ?_
      refine j_istore_n dX12_base_59 (by decide) ?_
      dsimp only [st1, st2, unL, List.set]
      refine j_aload_n dX12_base_60 rfl ?_
      refine j_getR dX12_base_61 fl_X12_159 rfl hm.1 (mO hm rfl) ?_
      refine j_iload_n dX12_base_64 rfl ?_
      refine j_zald 0 dX12_base_65 (mK hm rfl) (by rfl) (Nat.lt_of_lt_of_eq (by decide) (mN hm (k := 89) (n := 40) rfl rfl).symm) (Nat.lt_of_le_of_lt (Nat.le_of_eq (mN hm (k := 89) (n := 40) rfl rfl)) (by decide)) ?_
      rw [hI_sI, if_neg (mNe hm (i := 89) (j := 90) rfl rfl rfl), hI_sI1, show anc 40 (hI h (g 89)) 0 = 1 from rfl]
      refine j_if_eq 78 dX12_base_66 (by decide) (fun c_66 => ?_) (fun c_66 => ?_)
      · first | exact absurd c_66 (by decide) | exact absurd (by decide) c_75
      · refine j_aload_n dX12_base_69 rfl ?_
        refine j_getR dX12_base_70 fl_X12_162 rfl hm.1 (mO hm rfl) ?_
        refine j_iload_n dX12_base_73 rfl ?_
        refine j_zald 0 dX12_base_74 (mK hm rfl) (by rfl) (Nat.lt_of_lt_of_eq (by decide) (mN hm (k := 90) (n := 40) rfl rfl).symm) (Nat.lt_of_le_of_lt (Nat.le_of_eq (mN hm (k := 90) (n := 40) rfl rfl)) (by decide)) ?_
        rw [hI_sI1, show anc 40 (hI (sI h (g 89) (anc 40 (hI h (g 89)))) (g 90)) 0 = 1 from rfl]
        refine j_if_ne 84 dX12_base_75 (by decide) (fun c_75 => ?_) (fun c_75 => ?_)
        · refine j_iload_n dX12_base_84 rfl ?_
          exact j_ireturn dX12_base_85 rfl rfl ⟨by rw [if_pos ⟨rfl, rfl⟩]; rfl, hm, by rw [hI_sI, if_neg (mNe hm (i := 0) (j := 90) rfl rfl rfl), hI_sI, if_neg (mNe hm (i := 0) (j := 89) rfl rfl rfl)]; exact fmI z0 0 rfl⟩
        · first | exact absurd c_66 (by decide) | exact absurd (by decide) c_75
    · have hxy : ¬ (x = 0 ∧ y = 0) := fun w => by
        first | exact absurd (b2_0.mp c_16) (by rw [w.1]; decide) | exact absurd (b2_0.mp (Classical.not_not.mp c_30)) (by rw [w.2]; decide)
      refine j_iconst (v := -1) dX12_base_33 (by decide) ?_
      exact j_ireturn dX12_base_34 rfl rfl ⟨by rw [if_neg hxy], hm, fmI z0 0 rfl⟩

set_option maxRecDepth 20000 in
theorem e_merge {h : Hp} {g : Nat → Nat} (x : Int32) (hf : FM h g) : Con mX12_merge 3 0 0 [vr (some (g 0)), vi x] h (an g (if 0 ≤ x ∧ x ≤ 5 then (if x = 0 then -1 else 0) else 0) (if 0 ≤ x ∧ x ≤ 5 then (if x = 0 then 0 else 2) else 1)) := by
  obtain ⟨hm, z0, z1, z2, z3, z4, z5, z9, z10, z11, z64⟩ := id hf
  refine con_of rfl (Nat.le_of_ble_eq_true rfl) (by decide) ?_
  show J mX12_merge 3 0 0 _ 0 [some (vr (some (g 0))), some (vi x), none, none, none] [] h
  refine j_aload_n dX12_merge_0 rfl ?_
  refine j_iconst (v := 0) dX12_merge_1 (by decide) ?_
  refine j_putI dX12_merge_2 fl_X12_202 rfl rfl rfl hm.1 ?_
  rw [pI_same (fmI z0 0 (v := 0) rfl)]
  refine j_iload_n dX12_merge_5 rfl ?_
  refine j_iconst (v := 0) dX12_merge_6 (by decide) ?_
  refine j_iconst (v := 5) dX12_merge_7 (by decide) ?_
  refine j_callS3 dX12_merge_8 sl_X12_220 (c_in _ _ _) rfl (by decide) (by omega) (by omega) (Nat.le_of_ble_eq_true rfl) (fun v_8 u_8 p_8 => ?_)
  obtain ⟨e_8, rfl⟩ := p_8
  rw [e_8]
  clear e_8
  dsimp only [rs]
  refine j_if_ne 20 dX12_merge_11 (by decide) (fun c_11 => ?_) (fun c_11 => ?_)
  · have q := b2_n.mp c_11
    obtain ⟨b, hb, hx, hv⟩ := brM z11 q
    subst hx
    refine j_aload_n dX12_merge_20 rfl ?_
    refine j_getR dX12_merge_21 fl_X12_42 rfl hm.1 (mO hm rfl) ?_
    refine j_iload_n dX12_merge_24 rfl ?_
    refine j_iald _ dX12_merge_25 (mK hm rfl) (by first | with_reducible rfl | (simp (disch := omega) only [li_1, li_2, li_3, li_4, li_5, li_6, li_7, li_8, li_10, li_20, li_24, li_32, li_40, li_64, li_320, li_39, li_41, li_81, li_121, li_100000, pk_sub, pk_mul, nI_add, inc1, dec1]; with_reducible rfl)) (Nat.lt_of_lt_of_eq (by omega) (mN hm (k := 11) (n := 6) rfl rfl).symm) (Nat.lt_of_le_of_lt (Nat.le_of_eq (mN hm (k := 11) (n := 6) rfl rfl)) (by decide)) ?_
    rw [hv]
    refine j_if_ge 35 dX12_merge_26 (by decide) (fun c_26 => ?_) (fun c_26 => ?_)
    · have hb0 : b = 0 := Classical.byContradiction fun z => by rw [if_neg z] at c_26; exact absurd c_26 (by decide)
      subst hb0
      refine j_aload_n dX12_merge_35 rfl ?_
      refine j_iconst (v := 3) dX12_merge_36 (by decide) ?_
      refine j_callV1 dX12_merge_37 vl_X12_930 (e_bars 3 hf) hm.1 rfl (by decide) (by omega) (by omega) (Nat.le_of_ble_eq_true rfl) (fun v_37 u_37 p_37 => ?_)
      obtain ⟨e_37, rfl⟩ := p_37
      rw [e_37]
      clear e_37
      dsimp only [rs]
      refine j_if_le 53 dX12_merge_40 (by decide) (fun c_40 => ?_) (fun c_40 => ?_)
      · refine j_aload_n dX12_merge_53 rfl ?_
        refine j_getR dX12_merge_54 fl_X12_42 rfl hm.1 (mO hm rfl) ?_
        refine j_iload_n dX12_merge_57 rfl ?_
        refine j_iald _ dX12_merge_58 (mK hm rfl) (by first | with_reducible rfl | (simp (disch := omega) only [li_1, li_2, li_3, li_4, li_5, li_6, li_7, li_8, li_10, li_20, li_24, li_32, li_40, li_64, li_320, li_39, li_41, li_81, li_121, li_100000, pk_sub, pk_mul, nI_add, inc1, dec1]; with_reducible rfl)) (Nat.lt_of_lt_of_eq (by omega) (mN hm (k := 11) (n := 6) rfl rfl).symm) (Nat.lt_of_le_of_lt (Nat.le_of_eq (mN hm (k := 11) (n := 6) rfl rfl)) (by decide)) ?_
        rw [show hI h (g 11) 0 = 0 from z11 0 (by decide)]
        refine j_istore_n dX12_merge_59 (by decide) ?_
        dsimp only [st1, st2, unL, List.set]
        refine j_aload_n dX12_merge_60 rfl ?_
        refine j_iload_n dX12_merge_61 rfl ?_
        refine j_aload_n dX12_merge_62 rfl ?_
        refine j_callV0 dX12_merge_63 vl_X12_860 (c_head12 0 (fmI z0 12 rfl) (by decide) hm) hm.1 rfl (by decide) (by omega) (by omega) (Nat.le_of_ble_eq_true rfl) (fun v_63 u_63 p_63 => ?_)
        obtain ⟨e_63, rfl⟩ := p_63
        rw [e_63]
        clear e_63
        dsimp only [rs]
        rw [show hI h (g 11) 0 = 0 from z11 0 (by decide)]
        refine j_callV2 dX12_merge_66 vl_X12_933 (e_base 0 0 hf) hm.1 rfl (by decide) (by omega) (by omega) (Nat.le_of_ble_eq_true rfl) (fun v_66 u_66 p_66 => ?_)
        obtain ⟨rfl, hm2, y1⟩ := p_66
        rw [show (if (0 : Int32) = 0 ∧ (0 : Int32) = 0 then (0 : Int32) else -1) = 0 from rfl]
        dsimp only [rs]
        refine j_istore_n dX12_merge_69 (by decide) ?_
        dsimp only [st1, st2, unL, List.set]
        refine j_iload_n dX12_merge_70 rfl ?_
        refine j_iload_n dX12_merge_71 rfl ?_
        refine j_icmp_ne 77 dX12_merge_72 (by decide) (fun c_72 => ?_) (fun c_72 => ?_)
        · exact absurd rfl c_72
        · refine j_iconst (v := -1) dX12_merge_75 (by decide) ?_
          exact j_ireturn dX12_merge_76 rfl rfl ⟨by rw [if_pos q]; rfl, hm2, by rw [y1, if_pos q]; rfl⟩
      · exact absurd (by decide) c_40
    · refine j_aload_n dX12_merge_29 rfl ?_
      refine j_iconst (v := 2) dX12_merge_30 (by decide) ?_
      refine j_callV1 dX12_merge_31 vl_X12_237 (c_throwing 2 hm) hm.1 rfl (by decide) (by omega) (by omega) (Nat.le_of_ble_eq_true rfl) (fun v_31 u_31 p_31 => ?_)
      obtain ⟨e_, rfl⟩ := p_31
      rw [e_]
      clear e_
      dsimp only [rs]
      have hb0 : ¬ b = 0 := fun z => by rw [if_pos z] at c_26; exact absurd (by decide) c_26
      have hx0 : ¬ nI b = 0 := by rw [li_0, nI_eq (by omega) (by omega)]; exact hb0
      exact j_ireturn dX12_merge_34 rfl rfl ⟨by rw [if_pos q, if_neg hx0], hm, by rw [hI_pI, if_pos ⟨rfl, rfl⟩, if_pos q, if_neg hx0]⟩
  · refine j_aload_n dX12_merge_14 rfl ?_
    refine j_iconst (v := 1) dX12_merge_15 (by decide) ?_
    refine j_callV1 dX12_merge_16 vl_X12_237 (c_throwing 1 hm) hm.1 rfl (by decide) (by omega) (by omega) (Nat.le_of_ble_eq_true rfl) (fun v_16 u_16 p_16 => ?_)
    obtain ⟨e_, rfl⟩ := p_16
    rw [e_]
    clear e_
    dsimp only [rs]
    exact j_ireturn dX12_merge_19 rfl rfl ⟨by rw [if_neg (b2_0.mp (Classical.not_not.mp c_11))], hm, by rw [hI_pI, if_pos ⟨rfl, rfl⟩, if_neg (b2_0.mp (Classical.not_not.mp c_11))]⟩

theorem plm_cs {f : Nat → Int32} {x : Int32} {n : Nat} (hn : n ≤ 32) : plm f x n = -1 ∨ ∃ k, k < n ∧ plm f x n = nI k := by
  have h := pl1_le f x n
  by_cases q : pl1 f x n = 0
  · left; rw [plm, if_pos q]
  · right; exact ⟨pl1 f x n - 1, by omega, by rw [plm, if_neg q]⟩
theorem plm_at {f : Nat → Int32} {x : Int32} {n i : Nat} (h : ∀ j, j < i → f j ≠ x) (hi : f i = x) (hn : i < n) : plm f x n = nI i := by rw [plm, pl1_at h hi hn, if_neg (by omega)]; rfl
set_option maxRecDepth 20000 in
theorem c_contentAt {h : Hp} {g : Nat → Nat} {s nr nc i j : Nat} {r c : Int32} (hm : MW h g) (hs : s < 122) (hr : hI h (g 1) s = nI nr) (hc : hI h (g 2) s = nI nc) (l2 : nr ≤ 32) (l4 : nc ≤ 10) (hi : i < 32) (hj : j < 10) (pi : plm (fun k => hI h (g 3) (32 * s + k)) r nr = nI i) (pj : plm (fun k => hI h (g 4) (10 * s + k)) c nc = nI j) : Con mX12_contentOf 3 0 0 [vr (some (g 0)), vi (nI s), vi r, vi c] h (fun v u => u = h ∧ v = some (vi (hI h (g 5) (320 * s + 10 * i + j)))) := by
  refine con_of rfl (Nat.le_of_ble_eq_true rfl) (by decide) ?_
  show J mX12_contentOf 3 0 0 _ 0 [some (vr (some (g 0))), some (vi (nI s)), some (vi r), some (vi c), none, none] [] h
  refine j_aload_n dX12_contentOf_0 rfl ?_
  refine j_iload_n dX12_contentOf_1 rfl ?_
  refine j_iconst (v := 0) dX12_contentOf_2 (by decide) ?_
  refine j_iload_n dX12_contentOf_3 rfl ?_
  refine j_callV3 dX12_contentOf_4 vl_X12_217 (c_place12_0 _ hm hs hr l2) hm.1 rfl (by decide) (by omega) (by omega) (Nat.le_of_ble_eq_true rfl) (fun v_4 u_4 p_4 => ?_)
  obtain ⟨e_4, rfl⟩ := p_4
  rw [e_4]
  clear e_4
  dsimp only [rs]
  rw [pi]
  refine j_istore dX12_contentOf_7 (by decide) ?_
  dsimp only [st1, st2, unL, List.set]
  refine j_aload_n dX12_contentOf_9 rfl ?_
  refine j_iload_n dX12_contentOf_10 rfl ?_
  refine j_iconst (v := 1) dX12_contentOf_11 (by decide) ?_
  refine j_iload_n dX12_contentOf_12 rfl ?_
  refine j_callV3 dX12_contentOf_13 vl_X12_217 (c_place12_1 _ hm hs hc l4) hm.1 rfl (by decide) (by omega) (by omega) (Nat.le_of_ble_eq_true rfl) (fun v_13 u_13 p_13 => ?_)
  obtain ⟨e_13, rfl⟩ := p_13
  rw [e_13]
  clear e_13
  dsimp only [rs]
  rw [pj]
  refine j_istore dX12_contentOf_16 (by decide) ?_
  dsimp only [st1, st2, unL, List.set]
  refine j_iload dX12_contentOf_18 rfl ?_
  refine j_if_lt 28 dX12_contentOf_20 (by decide) (fun c_20 => ?_) (fun c_20 => ?_)
  · first | exact absurd c_20 (by rw [lt_i, nI_toInt (by omega)]; show ¬ _ < (0 : Int); omega) | exact absurd (by rw [le_i, nI_toInt (by omega)]; show (0 : Int) ≤ _; omega) c_25
  · refine j_iload dX12_contentOf_23 rfl ?_
    refine j_if_ge 32 dX12_contentOf_25 (by decide) (fun c_25 => ?_) (fun c_25 => ?_)
    · refine j_aload_n dX12_contentOf_32 rfl ?_
      refine j_getR dX12_contentOf_33 fl_X12_23 rfl hm.1 (mO hm rfl) ?_
      refine j_sipush (v := 320) dX12_contentOf_36 (by decide) ?_
      refine j_iload_n dX12_contentOf_39 rfl ?_
      refine j_imul dX12_contentOf_40 ?_
      refine j_bipush (v := 10) dX12_contentOf_41 (by decide) ?_
      refine j_iload dX12_contentOf_43 rfl ?_
      refine j_imul dX12_contentOf_45 ?_
      refine j_iadd dX12_contentOf_46 ?_
      refine j_iload dX12_contentOf_47 rfl ?_
      refine j_iadd dX12_contentOf_49 ?_
      refine j_iald _ dX12_contentOf_50 (mK hm rfl) (by first | with_reducible rfl | (simp (disch := omega) only [li_1, li_2, li_3, li_4, li_5, li_6, li_7, li_8, li_10, li_20, li_24, li_32, li_40, li_64, li_320, li_39, li_41, li_81, li_121, li_100000, pk_sub, pk_mul, nI_add, inc1, dec1]; with_reducible rfl)) (Nat.lt_of_lt_of_eq (by omega) (mN hm (k := 5) (n := 39040) rfl rfl).symm) (Nat.lt_of_le_of_lt (Nat.le_of_eq (mN hm (k := 5) (n := 39040) rfl rfl)) (by decide)) ?_
      exact j_ireturn dX12_contentOf_51 rfl rfl (⟨rfl, rfl⟩)
    · first | exact absurd c_20 (by rw [lt_i, nI_toInt (by omega)]; show ¬ _ < (0 : Int); omega) | exact absurd (by rw [le_i, nI_toInt (by omega)]; show (0 : Int) ≤ _; omega) c_25

set_option maxRecDepth 20000 in
theorem e_hasLikeN {h : Hp} {g : Nat → Nat} {r c x : Int32} (hm : MW h g) : Con mX12_hasLike 4 0 0 [vr (some (g 0)), vi (-1), vi r, vi c, vi x] h (fun v u => u = h ∧ v = some (vi (0))) := by
  refine con_of rfl (Nat.le_of_ble_eq_true rfl) (by decide) ?_
  show J mX12_hasLike 4 0 0 _ 0 [some (vr (some (g 0))), some (vi (-1)), some (vi r), some (vi c), some (vi x), none] [] h
  refine j_iload_n dX12_hasLike_0 rfl ?_
  refine j_if_ge 8 dX12_hasLike_1 (by decide) (fun c_1 => ?_) (fun c_1 => ?_)
  · exact absurd c_1 (by decide)
  · refine j_iconst (v := -1) dX12_hasLike_4 (by decide) ?_
    refine j_goto 15 dX12_hasLike_5 (by decide) ?_
    refine j_istore dX12_hasLike_15 (by decide) ?_
    dsimp only [st1, st2, unL, List.set]
    refine j_iload dX12_hasLike_17 rfl ?_
    refine j_if_lt 37 dX12_hasLike_19 (by decide) (fun c_19 => ?_) (fun c_19 => ?_)
    · refine j_iconst (v := 0) dX12_hasLike_37 (by decide) ?_
      exact j_ireturn dX12_hasLike_38 rfl rfl (⟨rfl, rfl⟩)
    · exact absurd (by decide) c_19

set_option maxRecDepth 20000 in
theorem e_hasLike0 {h : Hp} {g : Nat → Nat} {i j : Nat} (hf : FM h g) (hi : i < 8) (hj : j < 6) : Con mX12_hasLike 4 0 0 [vr (some (g 0)), vi 0, vi (nI i), vi (nI j), vi 0] h (fun v u => u = h ∧ v = some (vi (1))) := by
  obtain ⟨hm, z0, z1, z2, z3, z4, z5, z9, z10, z11, z64⟩ := id hf
  refine con_of rfl (Nat.le_of_ble_eq_true rfl) (by decide) ?_
  show J mX12_hasLike 4 0 0 _ 0 [some (vr (some (g 0))), some (vi 0), some (vi (nI i)), some (vi (nI j)), some (vi 0), none] [] h
  refine j_iload_n dX12_hasLike_0 rfl ?_
  refine j_if_ge 8 dX12_hasLike_1 (by decide) (fun c_1 => ?_) (fun c_1 => ?_)
  · refine j_aload_n dX12_hasLike_8 rfl ?_
    refine j_iload_n dX12_hasLike_9 rfl ?_
    refine j_iload_n dX12_hasLike_10 rfl ?_
    refine j_iload_n dX12_hasLike_11 rfl ?_
    refine j_callV3 dX12_hasLike_12 vl_X12_887 (c_contentAt (s := 0) (nr := 8) (nc := 6) (i := i) (j := j) hm (by decide) (by rw [z1]; rfl) (by rw [z2]; rfl) (by decide) (by decide) (by omega) (by omega) (by rw [z3]; exact plm_at (fun k hk => by simp only [fr_3]; rw [if_pos (by omega), Ne, nI_eq (by omega) (by omega)]; omega) (by simp only [fr_3]; rw [if_pos (by omega)]; congr 1; omega) hi) (by rw [z4]; exact plm_at (fun k hk => by simp only [fr_3]; rw [if_pos (by omega), Ne, nI_eq (by omega) (by omega)]; omega) (by simp only [fr_3]; rw [if_pos (by omega)]; congr 1; omega) hj)) hm.1 rfl (by decide) (by omega) (by omega) (Nat.le_of_ble_eq_true rfl) (fun v_12 u_12 p_12 => ?_)
    obtain ⟨e_12, rfl⟩ := p_12
    rw [e_12]
    clear e_12
    dsimp only [rs]
    rw [z5]
    refine j_istore dX12_hasLike_15 (by decide) ?_
    dsimp only [st1, st2, unL, List.set]
    refine j_iload dX12_hasLike_17 rfl ?_
    refine j_if_lt 37 dX12_hasLike_19 (by decide) (fun c_19 => ?_) (fun c_19 => ?_)
    · first | exact absurd c_19 (by decide) | exact absurd c_30 (by decide)
    · refine j_aload_n dX12_hasLike_22 rfl ?_
      refine j_iload dX12_hasLike_23 rfl ?_
      refine j_iload dX12_hasLike_25 rfl ?_
      refine j_callV2 dX12_hasLike_27 vl_X12_865 (c_alikeE 0 hm) hm.1 rfl (by decide) (by omega) (by omega) (Nat.le_of_ble_eq_true rfl) (fun v_27 u_27 p_27 => ?_)
      obtain ⟨e_27, rfl⟩ := p_27
      rw [e_27]
      clear e_27
      dsimp only [rs]
      refine j_if_eq 37 dX12_hasLike_30 (by decide) (fun c_30 => ?_) (fun c_30 => ?_)
      · first | exact absurd c_19 (by decide) | exact absurd c_30 (by decide)
      · refine j_iconst (v := 1) dX12_hasLike_33 (by decide) ?_
        refine j_goto 38 dX12_hasLike_34 (by decide) ?_
        exact j_ireturn dX12_hasLike_38 rfl rfl (⟨rfl, rfl⟩)
  · exact absurd (by decide) c_1

set_option maxRecDepth 20000 in
theorem e_blame {h : Hp} {g : Nat → Nat} (x y : Int32) (hf : FM h g) : Con mX12_blame 5 0 0 [vr (some (g 0)), vi x, vi y] h (an g 0 (if inSh 8 6 x y then 0 else 1)) := by
  obtain ⟨hm, z0, z1, z2, z3, z4, z5, z9, z10, z11, z64⟩ := id hf
  refine con_of rfl (Nat.le_of_ble_eq_true rfl) (by decide) ?_
  show J mX12_blame 5 0 0 _ 0 [some (vr (some (g 0))), some (vi x), some (vi y), none, none, none, none, none] [] h
  refine j_aload_n dX12_blame_0 rfl ?_
  refine j_iconst (v := 0) dX12_blame_1 (by decide) ?_
  refine j_putI dX12_blame_2 fl_X12_202 rfl rfl rfl hm.1 ?_
  rw [pI_same (fmI z0 0 (v := 0) rfl)]
  refine j_aload_n dX12_blame_5 rfl ?_
  refine j_bipush (v := 40) dX12_blame_6 (by decide) ?_
  refine j_iload_n dX12_blame_8 rfl ?_
  refine j_iload_n dX12_blame_9 rfl ?_
  refine j_callV3 dX12_blame_10 vl_X12_321 (c_isCell12 40 (by decide) (nr := 8) (nc := 6) _ _ hm (by rw [z1]; rfl) (by rw [z2]; rfl) (by decide) (by decide)) hm.1 rfl (by decide) (by omega) (by omega) (Nat.le_of_ble_eq_true rfl) (fun v_10 u_10 p_10 => ?_)
  obtain ⟨e_10, rfl⟩ := p_10
  rw [e_10]
  clear e_10
  dsimp only [rs]
  refine j_if_ne 22 dX12_blame_13 (by decide) (fun c_13 => ?_) (fun c_13 => ?_)
  · have q := b2_n.mp c_13
    obtain ⟨i0, hi0, hx, -⟩ := nI_ex (n := 8) (by omega) q.2.1
    obtain ⟨j0, hj0, hy, -⟩ := nI_ex (n := 6) (by omega) q.2.2.2
    subst hx
    subst hy
    simp only [inSh, nI_toInt (n := i0) (by omega), nI_toInt (n := j0) (by omega)] at q
    obtain ⟨i, rfl⟩ : ∃ i, i0 = i + 1 := ⟨i0 - 1, by omega⟩
    obtain ⟨j, rfl⟩ : ∃ j, j0 = j + 1 := ⟨j0 - 1, by omega⟩
    refine j_aload_n dX12_blame_22 rfl ?_
    refine j_bipush (v := 40) dX12_blame_23 (by decide) ?_
    refine j_iconst (v := 0) dX12_blame_25 (by decide) ?_
    refine j_iload_n dX12_blame_26 rfl ?_
    refine j_iconst (v := 1) dX12_blame_27 (by decide) ?_
    refine j_isub dX12_blame_28 ?_
    rw [show nI (i + 1) - 1 = nI i from nI_pred i]
    refine j_callV3 dX12_blame_29 vl_X12_213 (c_lineAt0 40 (by decide) i (by omega) hm) hm.1 rfl (by decide) (by omega) (by omega) (Nat.le_of_ble_eq_true rfl) (fun v_29 u_29 p_29 => ?_)
    obtain ⟨e_29, rfl⟩ := p_29
    rw [e_29]
    clear e_29
    dsimp only [rs]
    rw [show hI h (g 3) (32 * 40 + i) = nI i by rw [z3]; simp only [fr_3]; rw [if_neg (by omega), if_pos (by omega)]; congr 1; omega]
    refine j_istore_n dX12_blame_32 (by decide) ?_
    dsimp only [st1, st2, unL, List.set]
    refine j_aload_n dX12_blame_33 rfl ?_
    refine j_bipush (v := 40) dX12_blame_34 (by decide) ?_
    refine j_iconst (v := 1) dX12_blame_36 (by decide) ?_
    refine j_iload_n dX12_blame_37 rfl ?_
    refine j_iconst (v := 1) dX12_blame_38 (by decide) ?_
    refine j_isub dX12_blame_39 ?_
    rw [show nI (j + 1) - 1 = nI j from nI_pred j]
    refine j_callV3 dX12_blame_40 vl_X12_213 (c_lineAt1 40 (by decide) j (by omega) hm) hm.1 rfl (by decide) (by omega) (by omega) (Nat.le_of_ble_eq_true rfl) (fun v_40 u_40 p_40 => ?_)
    obtain ⟨e_40, rfl⟩ := p_40
    rw [e_40]
    clear e_40
    dsimp only [rs]
    rw [show hI h (g 4) (10 * 40 + j) = nI j by rw [z4]; simp only [fr_3]; rw [if_neg (by omega), if_pos (by omega)]; congr 1; omega]
    refine j_istore dX12_blame_43 (by decide) ?_
    dsimp only [st1, st2, unL, List.set]
    refine j_aload_n dX12_blame_45 rfl ?_
    refine j_bipush (v := 40) dX12_blame_46 (by decide) ?_
    refine j_iload_n dX12_blame_48 rfl ?_
    refine j_iload_n dX12_blame_49 rfl ?_
    refine j_callV3 dX12_blame_50 vl_X12_812 (c_cellAt 40 (by decide) i j (by omega) (by omega) hm) hm.1 rfl (by decide) (by omega) (by omega) (Nat.le_of_ble_eq_true rfl) (fun v_50 u_50 p_50 => ?_)
    obtain ⟨e_50, rfl⟩ := p_50
    rw [e_50]
    clear e_50
    dsimp only [rs]
    rw [z5]
    refine j_istore dX12_blame_53 (by decide) ?_
    dsimp only [st1, st2, unL, List.set]
    refine j_aload_n dX12_blame_55 rfl ?_
    refine j_callV0 dX12_blame_56 vl_X12_860 (c_head12 0 (fmI z0 12 rfl) (by decide) hm) hm.1 rfl (by decide) (by omega) (by omega) (Nat.le_of_ble_eq_true rfl) (fun v_56 u_56 p_56 => ?_)
    obtain ⟨e_56, rfl⟩ := p_56
    rw [e_56]
    clear e_56
    dsimp only [rs]
    rw [show hI h (g 11) 0 = 0 from z11 0 (by decide)]
    refine j_istore dX12_blame_59 (by decide) ?_
    dsimp only [st1, st2, unL, List.set]
    refine j_aload_n dX12_blame_61 rfl ?_
    refine j_iload dX12_blame_62 rfl ?_
    refine j_iload_n dX12_blame_64 rfl ?_
    refine j_iload dX12_blame_65 rfl ?_
    refine j_iload dX12_blame_67 rfl ?_
    refine j_callV4 dX12_blame_69 vl_X12_948 (e_hasLike0 hf (by omega) (by omega)) hm.1 rfl (by decide) (by omega) (by omega) (Nat.le_of_ble_eq_true rfl) (fun v_69 u_69 p_69 => ?_)
    obtain ⟨e_69, rfl⟩ := p_69
    rw [e_69]
    clear e_69
    dsimp only [rs]
    refine j_if_ne 77 dX12_blame_72 (by decide) (fun c_72 => ?_) (fun c_72 => ?_)
    · refine j_iconst (v := 1) dX12_blame_77 (by decide) ?_
      refine j_istore dX12_blame_78 (by decide) ?_
      dsimp only [st1, st2, unL, List.set]
      refine j_iload dX12_blame_80 rfl ?_
      refine j_if_eq 153 dX12_blame_82 (by decide) (fun c_82 => ?_) (fun c_82 => ?_)
      · exact absurd c_82 (by decide)
      · refine j_aload_n dX12_blame_85 rfl ?_
        refine j_aload_n dX12_blame_86 rfl ?_
        refine j_getR dX12_blame_87 fl_X12_36 rfl hm.1 (mO hm rfl) ?_
        refine j_iload dX12_blame_90 rfl ?_
        refine j_iald 0 dX12_blame_92 (mK hm rfl) rfl (Nat.lt_of_lt_of_eq (by decide) (mN hm (k := 9) (n := 40) rfl rfl).symm) (Nat.lt_of_le_of_lt (Nat.le_of_eq (mN hm (k := 9) (n := 40) rfl rfl)) (by decide)) ?_
        rw [z9]
        refine j_iload_n dX12_blame_93 rfl ?_
        refine j_iload dX12_blame_94 rfl ?_
        refine j_iload dX12_blame_96 rfl ?_
        refine j_callV4 dX12_blame_98 vl_X12_948 (e_hasLikeN hm) hm.1 rfl (by decide) (by omega) (by omega) (Nat.le_of_ble_eq_true rfl) (fun v_98 u_98 p_98 => ?_)
        obtain ⟨e_98, rfl⟩ := p_98
        rw [e_98]
        clear e_98
        dsimp only [rs]
        refine j_if_eq 116 dX12_blame_101 (by decide) (fun c_101 => ?_) (fun c_101 => ?_)
        · refine j_aload_n dX12_blame_116 rfl ?_
          refine j_aload_n dX12_blame_117 rfl ?_
          refine j_getR dX12_blame_118 fl_X12_39 rfl hm.1 (mO hm rfl) ?_
          refine j_iload dX12_blame_121 rfl ?_
          refine j_iald 0 dX12_blame_123 (mK hm rfl) rfl (Nat.lt_of_lt_of_eq (by decide) (mN hm (k := 10) (n := 40) rfl rfl).symm) (Nat.lt_of_le_of_lt (Nat.le_of_eq (mN hm (k := 10) (n := 40) rfl rfl)) (by decide)) ?_
          rw [z10]
          refine j_iload_n dX12_blame_124 rfl ?_
          refine j_iload dX12_blame_125 rfl ?_
          refine j_iload dX12_blame_127 rfl ?_
          refine j_callV4 dX12_blame_129 vl_X12_948 (e_hasLikeN hm) hm.1 rfl (by decide) (by omega) (by omega) (Nat.le_of_ble_eq_true rfl) (fun v_129 u_129 p_129 => ?_)
          obtain ⟨e_129, rfl⟩ := p_129
          rw [e_129]
          clear e_129
          dsimp only [rs]
          refine j_if_eq 147 dX12_blame_132 (by decide) (fun c_132 => ?_) (fun c_132 => ?_)
          · refine j_iconst (v := 0) dX12_blame_147 (by decide) ?_
            refine j_istore dX12_blame_148 (by decide) ?_
            dsimp only [st1, st2, unL, List.set]
            refine j_goto 80 dX12_blame_150 (by decide) ?_
            refine j_iload dX12_blame_80 rfl ?_
            refine j_if_eq 153 dX12_blame_82 (by decide) (fun c_82 => ?_) (fun c_82 => ?_)
            · refine j_iload dX12_blame_153 rfl ?_
              exact j_ireturn dX12_blame_155 rfl rfl ⟨rfl, hm, by rw [if_pos (by simp only [inSh, nI_toInt (n := i + 1) (by omega), nI_toInt (n := j + 1) (by omega)]; omega)]; exact fmI z0 0 rfl⟩
            · exact absurd (by decide) c_82
          · exact absurd rfl c_132
        · exact absurd rfl c_101
    · exact absurd (by decide) c_72
  · refine j_aload_n dX12_blame_16 rfl ?_
    refine j_iconst (v := 1) dX12_blame_17 (by decide) ?_
    refine j_callV1 dX12_blame_18 vl_X12_237 (c_throwing 1 hm) hm.1 rfl (by decide) (by omega) (by omega) (Nat.le_of_ble_eq_true rfl) (fun v_18 u_18 p_18 => ?_)
    obtain ⟨e_, rfl⟩ := p_18
    rw [e_]
    clear e_
    dsimp only [rs]
    exact j_ireturn dX12_blame_21 rfl rfl ⟨rfl, hm, by rw [hI_pI, if_pos ⟨rfl, rfl⟩, if_neg (b2_0.mp (Classical.not_not.mp c_13))]⟩

def shR (x y : Int32) : Int32 := if -1 ≤ x ∧ x ≤ 0 then (if y = 0 then 8 else if y = 1 then 6 else if y = 2 then (if x < 0 then 0 else -1) else -1) else -1
set_option maxRecDepth 20000 in
theorem e_sheet {h : Hp} {g : Nat → Nat} (x y : Int32) (hf : FM h g) : Con mX12_sheet 3 0 0 [vr (some (g 0)), vi x, vi y] h (fun v u => v = some (vi (shR x y))) := by
  obtain ⟨hm, z0, z1, z2, z3, z4, z5, z9, z10, z11, z64⟩ := id hf
  refine con_of rfl (Nat.le_of_ble_eq_true rfl) (by decide) ?_
  show J mX12_sheet 3 0 0 _ 0 [some (vr (some (g 0))), some (vi x), some (vi y)] [] h
  refine j_aload_n dX12_sheet_0 rfl ?_
  refine j_iconst (v := 0) dX12_sheet_1 (by decide) ?_
  refine j_putI dX12_sheet_2 fl_X12_202 rfl rfl rfl hm.1 ?_
  rw [pI_same (fmI z0 0 (v := 0) rfl)]
  refine j_aload_n dX12_sheet_5 rfl ?_
  refine j_iload_n dX12_sheet_6 rfl ?_
  refine j_callV1 dX12_sheet_7 vl_X12_734 (c_isSheet _ hm) hm.1 rfl (by decide) (by omega) (by omega) (Nat.le_of_ble_eq_true rfl) (fun v_7 u_7 p_7 => ?_)
  obtain ⟨e_7, rfl⟩ := p_7
  rw [e_7]
  clear e_7
  dsimp only [rs]
  rw [fmI z0 8 (v := 1) rfl, show (1 : Int32) - 1 = 0 from rfl]
  refine j_if_ne 15 dX12_sheet_10 (by decide) (fun c_10 => ?_) (fun c_10 => ?_)
  · have q := b2_n.mp c_10
    refine j_iload_n dX12_sheet_15 rfl ?_
    rcases sw_3 y with hsw | rfl | rfl | rfl | rfl
    · refine j_tabOut 104 dX12_sheet_16 hsw (by decide) ?_
      refine j_iconst (v := -1) dX12_sheet_104 (by decide) ?_
      exact j_ireturn dX12_sheet_105 rfl rfl (by show some _ = some _; rw [shR, if_pos q]; first | (simp [*]; done) | (rw [if_neg (by rintro rfl; revert hsw; decide), if_neg (by rintro rfl; revert hsw; decide), if_neg (by rintro rfl; revert hsw; decide)]; done) | (simp_all [lt_i, le_i, Int32.reduceToInt]; done) | rw [if_neg (by rintro rfl; revert hsw; decide), if_neg (by rintro rfl; revert hsw; decide), if_neg (by rintro rfl; revert hsw; decide)])
    · refine j_tabIn 48 dX12_sheet_16 (by decide) (by decide) rfl (by decide) ?_
      refine j_aload_n dX12_sheet_48 rfl ?_
      refine j_getR dX12_sheet_49 fl_X12_7 rfl hm.1 (mO hm rfl) ?_
      refine j_iload_n dX12_sheet_52 rfl ?_
      refine j_callS1 dX12_sheet_53 sl_X12_737 (c_sheetAt _) rfl (by decide) (by omega) (by omega) (Nat.le_of_ble_eq_true rfl) (fun v_53 u_53 p_53 => ?_)
      obtain ⟨e_53, rfl⟩ := p_53
      rw [e_53]
      clear e_53
      dsimp only [rs]
      have hsa : (if x < 0 then (40 : Int32) else x) = nI 40 ∨ (if x < 0 then (40 : Int32) else x) = nI 0 := by
        by_cases w : x < 0
        · left; rw [if_pos w]; rfl
        · right; rw [if_neg w, eq_i]; simp only [le_i, lt_i, Int32.reduceToInt] at *; show x.toInt = (0 : Int); omega
      have hse : ∃ k : Nat, k < 122 ∧ (if x < 0 then (40 : Int32) else x) = nI k ∧ hI h (g 1) k = 8 := by
        rcases hsa with w | w
        · exact ⟨40, by decide, w, by rw [z1]; rfl⟩
        · exact ⟨0, by decide, w, by rw [z1]; rfl⟩
      obtain ⟨k, hk, hk1, hk2⟩ := hse
      refine j_iald k dX12_sheet_56 (mK hm rfl) hk1 (Nat.lt_of_lt_of_eq hk (mN hm (k := 1) (n := 122) rfl rfl).symm) (Nat.lt_of_le_of_lt (Nat.le_of_eq (mN hm (k := 1) (n := 122) rfl rfl)) (by decide)) ?_
      rw [hk2]
      exact j_ireturn dX12_sheet_57 rfl rfl (by show some _ = some _; rw [shR, if_pos q]; first | (simp [*]; done) | (rw [if_neg (by rintro rfl; revert hsw; decide), if_neg (by rintro rfl; revert hsw; decide), if_neg (by rintro rfl; revert hsw; decide)]; done) | (simp_all [lt_i, le_i, Int32.reduceToInt]; done) | rw [if_neg (by rintro rfl; revert hsw; decide), if_neg (by rintro rfl; revert hsw; decide), if_neg (by rintro rfl; revert hsw; decide)])
    · refine j_tabIn 58 dX12_sheet_16 (by decide) (by decide) rfl (by decide) ?_
      refine j_aload_n dX12_sheet_58 rfl ?_
      refine j_getR dX12_sheet_59 fl_X12_13 rfl hm.1 (mO hm rfl) ?_
      refine j_iload_n dX12_sheet_62 rfl ?_
      refine j_callS1 dX12_sheet_63 sl_X12_737 (c_sheetAt _) rfl (by decide) (by omega) (by omega) (Nat.le_of_ble_eq_true rfl) (fun v_63 u_63 p_63 => ?_)
      obtain ⟨e_63, rfl⟩ := p_63
      rw [e_63]
      clear e_63
      dsimp only [rs]
      have hsa : (if x < 0 then (40 : Int32) else x) = nI 40 ∨ (if x < 0 then (40 : Int32) else x) = nI 0 := by
        by_cases w : x < 0
        · left; rw [if_pos w]; rfl
        · right; rw [if_neg w, eq_i]; simp only [le_i, lt_i, Int32.reduceToInt] at *; show x.toInt = (0 : Int); omega
      have hse : ∃ k : Nat, k < 122 ∧ (if x < 0 then (40 : Int32) else x) = nI k ∧ hI h (g 2) k = 6 := by
        rcases hsa with w | w
        · exact ⟨40, by decide, w, by rw [z2]; rfl⟩
        · exact ⟨0, by decide, w, by rw [z2]; rfl⟩
      obtain ⟨k, hk, hk1, hk2⟩ := hse
      refine j_iald k dX12_sheet_66 (mK hm rfl) hk1 (Nat.lt_of_lt_of_eq hk (mN hm (k := 2) (n := 122) rfl rfl).symm) (Nat.lt_of_le_of_lt (Nat.le_of_eq (mN hm (k := 2) (n := 122) rfl rfl)) (by decide)) ?_
      rw [hk2]
      exact j_ireturn dX12_sheet_67 rfl rfl (by show some _ = some _; rw [shR, if_pos q]; first | (simp [*]; done) | (rw [if_neg (by rintro rfl; revert hsw; decide), if_neg (by rintro rfl; revert hsw; decide), if_neg (by rintro rfl; revert hsw; decide)]; done) | (simp_all [lt_i, le_i, Int32.reduceToInt]; done) | rw [if_neg (by rintro rfl; revert hsw; decide), if_neg (by rintro rfl; revert hsw; decide), if_neg (by rintro rfl; revert hsw; decide)])
    · refine j_tabIn 68 dX12_sheet_16 (by decide) (by decide) rfl (by decide) ?_
      refine j_iload_n dX12_sheet_68 rfl ?_
      refine j_if_ge 79 dX12_sheet_69 (by decide) (fun c_69 => ?_) (fun c_69 => ?_)
      · have hx0 : x = nI 0 := by rw [eq_i]; simp only [le_i, Int32.reduceToInt] at *; show x.toInt = (0 : Int); omega
        refine j_aload_n dX12_sheet_79 rfl ?_
        refine j_getR dX12_sheet_80 fl_X12_36 rfl hm.1 (mO hm rfl) ?_
        refine j_iload_n dX12_sheet_83 rfl ?_
        refine j_iald 0 dX12_sheet_84 (mK hm rfl) (by assumption) (Nat.lt_of_lt_of_eq (by decide) (mN hm (k := 9) (n := 40) rfl rfl).symm) (Nat.lt_of_le_of_lt (Nat.le_of_eq (mN hm (k := 9) (n := 40) rfl rfl)) (by decide)) ?_
        rw [z9]
        exact j_ireturn dX12_sheet_85 rfl rfl (by show some _ = some _; rw [shR, if_pos q]; first | (simp [*]; done) | (rw [if_neg (by rintro rfl; revert hsw; decide), if_neg (by rintro rfl; revert hsw; decide), if_neg (by rintro rfl; revert hsw; decide)]; done) | (simp_all [lt_i, le_i, Int32.reduceToInt]; done) | rw [if_neg (by rintro rfl; revert hsw; decide), if_neg (by rintro rfl; revert hsw; decide), if_neg (by rintro rfl; revert hsw; decide)])
      · refine j_aload_n dX12_sheet_72 rfl ?_
        refine j_callV0 dX12_sheet_73 vl_X12_860 (c_head12 0 (fmI z0 12 rfl) (by decide) hm) hm.1 rfl (by decide) (by omega) (by omega) (Nat.le_of_ble_eq_true rfl) (fun v_73 u_73 p_73 => ?_)
        obtain ⟨e_73, rfl⟩ := p_73
        rw [e_73]
        clear e_73
        dsimp only [rs]
        rw [show hI h (g 11) 0 = 0 from z11 0 (by decide)]
        refine j_goto 85 dX12_sheet_76 (by decide) ?_
        exact j_ireturn dX12_sheet_85 rfl rfl (by show some _ = some _; rw [shR, if_pos q]; first | (simp [*]; done) | (rw [if_neg (by rintro rfl; revert hsw; decide), if_neg (by rintro rfl; revert hsw; decide), if_neg (by rintro rfl; revert hsw; decide)]; done) | (simp_all [lt_i, le_i, Int32.reduceToInt]; done) | rw [if_neg (by rintro rfl; revert hsw; decide), if_neg (by rintro rfl; revert hsw; decide), if_neg (by rintro rfl; revert hsw; decide)])
    · refine j_tabIn 86 dX12_sheet_16 (by decide) (by decide) rfl (by decide) ?_
      refine j_iload_n dX12_sheet_86 rfl ?_
      refine j_if_ge 97 dX12_sheet_87 (by decide) (fun c_87 => ?_) (fun c_87 => ?_)
      · have hx0 : x = nI 0 := by rw [eq_i]; simp only [le_i, Int32.reduceToInt] at *; show x.toInt = (0 : Int); omega
        refine j_aload_n dX12_sheet_97 rfl ?_
        refine j_getR dX12_sheet_98 fl_X12_39 rfl hm.1 (mO hm rfl) ?_
        refine j_iload_n dX12_sheet_101 rfl ?_
        refine j_iald 0 dX12_sheet_102 (mK hm rfl) (by assumption) (Nat.lt_of_lt_of_eq (by decide) (mN hm (k := 10) (n := 40) rfl rfl).symm) (Nat.lt_of_le_of_lt (Nat.le_of_eq (mN hm (k := 10) (n := 40) rfl rfl)) (by decide)) ?_
        rw [z10]
        exact j_ireturn dX12_sheet_103 rfl rfl (by show some _ = some _; rw [shR, if_pos q]; first | (simp [*]; done) | (rw [if_neg (by rintro rfl; revert hsw; decide), if_neg (by rintro rfl; revert hsw; decide), if_neg (by rintro rfl; revert hsw; decide)]; done) | (simp_all [lt_i, le_i, Int32.reduceToInt]; done) | rw [if_neg (by rintro rfl; revert hsw; decide), if_neg (by rintro rfl; revert hsw; decide), if_neg (by rintro rfl; revert hsw; decide)])
      · refine j_aload_n dX12_sheet_90 rfl ?_
        refine j_getI dX12_sheet_91 fl_X12_45 rfl hm.1 ?_
        rw [fmI z0 13 (v := -1) rfl]
        refine j_goto 103 dX12_sheet_94 (by decide) ?_
        exact j_ireturn dX12_sheet_103 rfl rfl (by show some _ = some _; rw [shR, if_pos q]; first | (simp [*]; done) | (rw [if_neg (by rintro rfl; revert hsw; decide), if_neg (by rintro rfl; revert hsw; decide), if_neg (by rintro rfl; revert hsw; decide)]; done) | (simp_all [lt_i, le_i, Int32.reduceToInt]; done) | rw [if_neg (by rintro rfl; revert hsw; decide), if_neg (by rintro rfl; revert hsw; decide), if_neg (by rintro rfl; revert hsw; decide)])
  · refine j_iconst (v := -1) dX12_sheet_13 (by decide) ?_
    exact j_ireturn dX12_sheet_14 rfl rfl (by show some _ = some _; rw [shR, if_neg (b2_0.mp (Classical.not_not.mp c_10))])

def toR (x : Int32) : Int32 := if x = 0 then 1 else if x = 9 then 1 else if 10 ≤ x ∧ x ≤ 15 then (if x = 10 then 0 else -1) else if 0 ≤ x ∧ x ≤ 8 then 0 else -1
set_option maxRecDepth 20000 in
theorem e_total {h : Hp} {g : Nat → Nat} (x : Int32) (hf : FM h g) : Con mX12_total 4 0 0 [vr (some (g 0)), vi x] h (fun v u => v = some (vi (toR x))) := by
  obtain ⟨hm, z0, z1, z2, z3, z4, z5, z9, z10, z11, z64⟩ := id hf
  refine con_of rfl (Nat.le_of_ble_eq_true rfl) (by decide) ?_
  show J mX12_total 4 0 0 _ 0 [some (vr (some (g 0))), some (vi x)] [] h
  refine j_aload_n dX12_total_0 rfl ?_
  refine j_iconst (v := 0) dX12_total_1 (by decide) ?_
  refine j_putI dX12_total_2 fl_X12_202 rfl rfl rfl hm.1 ?_
  rw [pI_same (fmI z0 0 (v := 0) rfl)]
  refine j_iload_n dX12_total_5 rfl ?_
  rcases sw_9 x with hsw | rfl | rfl | rfl | rfl | rfl | rfl | rfl | rfl | rfl | rfl
  · refine j_tabOut 118 dX12_total_6 hsw (by decide) ?_
    refine j_iload_n dX12_total_118 rfl ?_
    refine j_bipush (v := 10) dX12_total_119 (by decide) ?_
    refine j_bipush (v := 15) dX12_total_121 (by decide) ?_
    refine j_callS3 dX12_total_123 sl_X12_220 (c_in _ _ _) rfl (by decide) (by omega) (by omega) (Nat.le_of_ble_eq_true rfl) (fun v_123 u_123 p_123 => ?_)
    obtain ⟨e_123, rfl⟩ := p_123
    rw [e_123]
    clear e_123
    dsimp only [rs]
    refine j_if_eq 141 dX12_total_126 (by decide) (fun c_126 => ?_) (fun c_126 => ?_)
    · have q := b2_0.mp c_126
      refine j_iconst (v := -1) dX12_total_141 (by decide) ?_
      first | (rcases hbb with rfl | rfl | rfl | rfl | rfl | rfl <;> exact j_ireturn dX12_total_142 rfl rfl (by rfl)) | exact j_ireturn dX12_total_142 rfl rfl (by show some _ = some _; rw [toR, if_neg (by rintro rfl; revert hsw; decide), if_neg (by rintro rfl; revert hsw; decide), if_neg q, if_neg (by simp only [le_i, Int32.reduceToInt]; omega)])
    · have q := b2_nn.mp c_126
      simp only [le_i, Int32.reduceToInt] at q
      obtain ⟨k, hk, hx, hkk⟩ := nI_ex (n := 15) (x := x) (by omega) q.2
      subst hx
      obtain ⟨b, rfl⟩ : ∃ b, k = b + 10 := ⟨k - 10, by omega⟩
      refine j_aload_n dX12_total_129 rfl ?_
      refine j_getR dX12_total_130 fl_X12_42 rfl hm.1 (mO hm rfl) ?_
      refine j_iload_n dX12_total_133 rfl ?_
      refine j_bipush (v := 10) dX12_total_134 (by decide) ?_
      refine j_isub dX12_total_136 ?_
      refine j_iald b dX12_total_137 (mK hm rfl) (by rw [li_10, pk_sub (by omega)]; congr 1) (Nat.lt_of_lt_of_eq (by omega) (mN hm (k := 11) (n := 6) rfl rfl).symm) (Nat.lt_of_le_of_lt (Nat.le_of_eq (mN hm (k := 11) (n := 6) rfl rfl)) (by decide)) ?_
      rw [z11 b (by omega)]
      have hbb : b = 0 ∨ b = 1 ∨ b = 2 ∨ b = 3 ∨ b = 4 ∨ b = 5 := by omega
      skip
      refine j_goto 142 dX12_total_138 (by decide) ?_
      first | (rcases hbb with rfl | rfl | rfl | rfl | rfl | rfl <;> exact j_ireturn dX12_total_142 rfl rfl (by rfl)) | exact j_ireturn dX12_total_142 rfl rfl (by show some _ = some _; rw [toR, if_neg (by rintro rfl; revert hsw; decide), if_neg (by rintro rfl; revert hsw; decide), if_neg q, if_neg (by simp only [le_i, Int32.reduceToInt]; omega)])
  · refine j_tabIn 60 dX12_total_6 (by decide) (by decide) rfl (by decide) ?_
    refine j_aload_n dX12_total_60 rfl ?_
    refine j_getI dX12_total_61 fl_X12_33 rfl hm.1 ?_
    rw [fmI z0 8 (v := 1) rfl]
    exact j_ireturn dX12_total_64 rfl rfl (by show some _ = some _; first | rfl | (simp only [toR]; rfl))
  · refine j_tabIn 65 dX12_total_6 (by decide) (by decide) rfl (by decide) ?_
    refine j_aload_n dX12_total_65 rfl ?_
    refine j_getI dX12_total_66 fl_X12_857 rfl hm.1 ?_
    rw [fmI z0 12 (v := 0) rfl]
    exact j_ireturn dX12_total_69 rfl rfl (by show some _ = some _; first | rfl | (simp only [toR]; rfl))
  · refine j_tabIn 70 dX12_total_6 (by decide) (by decide) rfl (by decide) ?_
    refine j_aload_n dX12_total_70 rfl ?_
    refine j_callV0 dX12_total_71 vl_X12_860 (c_head12 0 (fmI z0 12 rfl) (by decide) hm) hm.1 rfl (by decide) (by omega) (by omega) (Nat.le_of_ble_eq_true rfl) (fun v_71 u_71 p_71 => ?_)
    obtain ⟨e_71, rfl⟩ := p_71
    rw [e_71]
    clear e_71
    dsimp only [rs]
    rw [show hI h (g 11) 0 = 0 from z11 0 (by decide)]
    exact j_ireturn dX12_total_74 rfl rfl (by show some _ = some _; first | rfl | (simp only [toR]; rfl))
  · refine j_tabIn 75 dX12_total_6 (by decide) (by decide) rfl (by decide) ?_
    refine j_aload_n dX12_total_75 rfl ?_
    refine j_callV0 dX12_total_76 vl_X12_871 (e_unsettled hf) hm.1 rfl (by decide) (by omega) (by omega) (Nat.le_of_ble_eq_true rfl) (fun v_76 u_76 p_76 => ?_)
    obtain ⟨e_76, rfl⟩ := p_76
    rw [e_76]
    clear e_76
    dsimp only [rs]
    exact j_ireturn dX12_total_79 rfl rfl (by show some _ = some _; first | rfl | (simp only [toR]; rfl))
  · refine j_tabIn 80 dX12_total_6 (by decide) (by decide) rfl (by decide) ?_
    refine j_aload_n dX12_total_80 rfl ?_
    refine j_getI dX12_total_81 fl_X12_227 rfl hm.1 ?_
    rw [fmI z0 16 (v := 0) rfl]
    exact j_ireturn dX12_total_84 rfl rfl (by show some _ = some _; first | rfl | (simp only [toR]; rfl))
  · refine j_tabIn 85 dX12_total_6 (by decide) (by decide) rfl (by decide) ?_
    refine j_aload_n dX12_total_85 rfl ?_
    refine j_getI dX12_total_86 fl_X12_230 rfl hm.1 ?_
    rw [fmI z0 17 (v := 0) rfl]
    exact j_ireturn dX12_total_89 rfl rfl (by show some _ = some _; first | rfl | (simp only [toR]; rfl))
  · refine j_tabIn 90 dX12_total_6 (by decide) (by decide) rfl (by decide) ?_
    refine j_aload_n dX12_total_90 rfl ?_
    refine j_getI dX12_total_91 fl_X12_336 rfl hm.1 ?_
    rw [fmI z0 25 (v := 0) rfl]
    exact j_ireturn dX12_total_94 rfl rfl (by show some _ = some _; first | rfl | (simp only [toR]; rfl))
  · refine j_tabIn 95 dX12_total_6 (by decide) (by decide) rfl (by decide) ?_
    refine j_aload_n dX12_total_95 rfl ?_
    refine j_getI dX12_total_96 fl_X12_258 rfl hm.1 ?_
    rw [fmI z0 40 (v := 0) rfl]
    exact j_ireturn dX12_total_99 rfl rfl (by show some _ = some _; first | rfl | (simp only [toR]; rfl))
  · refine j_tabIn 100 dX12_total_6 (by decide) (by decide) rfl (by decide) ?_
    refine j_aload_n dX12_total_100 rfl ?_
    refine j_getI dX12_total_101 fl_X12_927 rfl hm.1 ?_
    rw [fmI z0 14 (v := 0) rfl]
    exact j_ireturn dX12_total_104 rfl rfl (by show some _ = some _; first | rfl | (simp only [toR]; rfl))
  · refine j_tabIn 105 dX12_total_6 (by decide) (by decide) rfl (by decide) ?_
    refine j_aload_n dX12_total_105 rfl ?_
    refine j_callV0 dX12_total_106 vl_X12_877 (e_isLikeHead hf) hm.1 rfl (by decide) (by omega) (by omega) (Nat.le_of_ble_eq_true rfl) (fun v_106 u_106 p_106 => ?_)
    obtain ⟨e_106, rfl⟩ := p_106
    rw [e_106]
    clear e_106
    dsimp only [rs]
    refine j_if_eq 116 dX12_total_109 (by decide) (fun c_109 => ?_) (fun c_109 => ?_)
    · exact absurd c_109 (by decide)
    · refine j_iconst (v := 1) dX12_total_112 (by decide) ?_
      refine j_goto 117 dX12_total_113 (by decide) ?_
      exact j_ireturn dX12_total_117 rfl rfl (by show some _ = some _; first | rfl | (simp only [toR]; rfl))

set_option maxRecDepth 20000 in
theorem e_commit {h : Hp} {g : Nat → Nat} (hf : FM h g) : Con mX12_commit 3 0 0 [vr (some (g 0))] h (an g 1 0) := by
  obtain ⟨hm, z0, z1, z2, z3, z4, z5, z9, z10, z11, z64⟩ := id hf
  refine con_of rfl (Nat.le_of_ble_eq_true rfl) (by decide) ?_
  show J mX12_commit 3 0 0 _ 0 [some (vr (some (g 0))), none] [] h
  refine j_aload_n dX12_commit_0 rfl ?_
  refine j_iconst (v := 0) dX12_commit_1 (by decide) ?_
  refine j_putI dX12_commit_2 fl_X12_202 rfl rfl rfl hm.1 ?_
  rw [pI_same (fmI z0 0 (v := 0) rfl)]
  refine j_aload_n dX12_commit_5 rfl ?_
  refine j_callV0 dX12_commit_6 vl_X12_871 (e_unsettled hf) hm.1 rfl (by decide) (by omega) (by omega) (Nat.le_of_ble_eq_true rfl) (fun v_6 u_6 p_6 => ?_)
  obtain ⟨e_6, rfl⟩ := p_6
  rw [e_6]
  clear e_6
  dsimp only [rs]
  refine j_if_le 18 dX12_commit_9 (by decide) (fun c_9 => ?_) (fun c_9 => ?_)
  · refine j_aload_n dX12_commit_18 rfl ?_
    refine j_getI dX12_commit_19 fl_X12_33 rfl hm.1 ?_
    rw [fmI z0 8 (v := 1) rfl]
    refine j_bipush (v := 40) dX12_commit_22 (by decide) ?_
    refine j_icmp_ne 33 dX12_commit_24 (by decide) (fun c_24 => ?_) (fun c_24 => ?_)
    · refine j_aload_n dX12_commit_33 rfl ?_
      refine j_getI dX12_commit_34 fl_X12_33 rfl hm.1 ?_
      rw [fmI z0 8 (v := 1) rfl]
      refine j_istore_n dX12_commit_37 (by decide) ?_
      dsimp only [st1, st2, unL, List.set]
      refine j_aload_n dX12_commit_38 rfl ?_
      refine j_bipush (v := 40) dX12_commit_39 (by decide) ?_
      refine j_iload_n dX12_commit_41 rfl ?_
      refine j_callV2 dX12_commit_42 vl_X12_198 (c_copySheet (s := 40) (t := 1) hm (by decide) (by decide)) hm.1 rfl (by decide) (by omega) (by omega) (Nat.le_of_ble_eq_true rfl) (fun v_42 u_42 p_42 => ?_)
      obtain ⟨e_, rfl⟩ := p_42
      rw [e_, if_neg (by decide)]
      clear e_
      dsimp only [rs]
      refine j_aload_n dX12_commit_45 rfl ?_
      refine j_getR dX12_commit_46 fl_X12_36 rfl hm.1 (mO hm rfl) ?_
      refine j_iload_n dX12_commit_49 rfl ?_
      refine j_aload_n dX12_commit_50 rfl ?_
      refine j_callV0 dX12_commit_51 vl_X12_860 (c_head12 (h := cps h g 40 1) 0 (by simp [hI_pI, hI_sI, cps, cs5, cs4, cs3, mNe hm (i := 0) (j := 1) rfl rfl rfl, mNe hm (i := 0) (j := 2) rfl rfl rfl, mNe hm (i := 0) (j := 3) rfl rfl rfl, mNe hm (i := 0) (j := 4) rfl rfl rfl, mNe hm (i := 0) (j := 5) rfl rfl rfl]; exact fmI z0 12 rfl) (by decide) hm) hm.1 rfl (by decide) (by omega) (by omega) (Nat.le_of_ble_eq_true rfl) (fun v_51 u_51 p_51 => ?_)
      obtain ⟨e_, rfl⟩ := p_51
      rw [e_]
      clear e_
      dsimp only [rs]
      refine j_iast 1 dX12_commit_54 (mK hm rfl) rfl (Nat.lt_of_lt_of_eq (by decide) (mN hm (k := 9) (n := 40) rfl rfl).symm) (Nat.lt_of_le_of_lt (Nat.le_of_eq (mN hm (k := 9) (n := 40) rfl rfl)) (by decide)) ?_
      refine j_aload_n dX12_commit_55 rfl ?_
      refine j_getR dX12_commit_56 fl_X12_39 rfl hm.1 (mO hm rfl) ?_
      refine j_iload_n dX12_commit_59 rfl ?_
      refine j_aload_n dX12_commit_60 rfl ?_
      refine j_getI dX12_commit_61 fl_X12_45 rfl hm.1 ?_
      refine j_iast 1 dX12_commit_64 (mK hm rfl) rfl (Nat.lt_of_lt_of_eq (by decide) (mN hm (k := 10) (n := 40) rfl rfl).symm) (Nat.lt_of_le_of_lt (Nat.le_of_eq (mN hm (k := 10) (n := 40) rfl rfl)) (by decide)) ?_
      generalize hI (pI (cps h g 40 1) (g 9) 1 (hI (cps h g 40 1) (g 11) 0)) (g 0) 13 = w1
      refine j_aload_n dX12_commit_65 rfl ?_
      refine j_iconst (v := -1) dX12_commit_66 (by decide) ?_
      refine j_putI dX12_commit_67 fl_X12_45 rfl rfl rfl hm.1 ?_
      refine j_aload_n dX12_commit_70 rfl ?_
      refine j_iconst (v := 0) dX12_commit_71 (by decide) ?_
      refine j_putI dX12_commit_72 fl_X12_868 rfl rfl rfl hm.1 ?_
      refine j_aload_n dX12_commit_75 rfl ?_
      refine j_getR dX12_commit_76 fl_X12_42 rfl hm.1 (mO hm rfl) ?_
      refine j_aload_n dX12_commit_79 rfl ?_
      refine j_getI dX12_commit_80 fl_X12_857 rfl hm.1 ?_
      refine j_iload_n dX12_commit_83 rfl ?_
      refine j_iast 0 dX12_commit_84 (mK hm rfl) (by simp [hI_pI, hI_sI, cps, cs5, cs4, cs3, mNe hm (i := 0) (j := 1) rfl rfl rfl, mNe hm (i := 0) (j := 2) rfl rfl rfl, mNe hm (i := 0) (j := 3) rfl rfl rfl, mNe hm (i := 0) (j := 4) rfl rfl rfl, mNe hm (i := 0) (j := 5) rfl rfl rfl, mNe hm (i := 0) (j := 9) rfl rfl rfl, mNe hm (i := 0) (j := 10) rfl rfl rfl]; rw [z0]; rfl) (Nat.lt_of_lt_of_eq (by decide) (mN hm (k := 11) (n := 6) rfl rfl).symm) (Nat.lt_of_le_of_lt (Nat.le_of_eq (mN hm (k := 11) (n := 6) rfl rfl)) (by decide)) ?_
      refine j_aload_n dX12_commit_85 rfl ?_
      refine j_dup dX12_commit_86 rfl ?_
      refine j_getI dX12_commit_87 fl_X12_33 rfl hm.1 ?_
      refine j_iconst (v := 1) dX12_commit_90 (by decide) ?_
      refine j_iadd dX12_commit_91 ?_
      refine j_putI dX12_commit_92 fl_X12_33 rfl rfl rfl hm.1 ?_
      refine j_iload_n dX12_commit_95 rfl ?_
      exact j_ireturn dX12_commit_96 rfl rfl (⟨rfl, hm, by simp [hI_pI, hI_sI, cps, cs5, cs4, cs3, mNe hm (i := 0) (j := 1) rfl rfl rfl, mNe hm (i := 0) (j := 2) rfl rfl rfl, mNe hm (i := 0) (j := 3) rfl rfl rfl, mNe hm (i := 0) (j := 4) rfl rfl rfl, mNe hm (i := 0) (j := 5) rfl rfl rfl, mNe hm (i := 0) (j := 9) rfl rfl rfl, mNe hm (i := 0) (j := 10) rfl rfl rfl, mNe hm (i := 0) (j := 11) rfl rfl rfl]; exact fmI z0 0 rfl⟩)
    · exact absurd (by decide) c_24
  · exact absurd (by decide) c_9

/-- behind the first step -/
def S1 (u : Hp) (g : Nat → Nat) : Prop := MW u g ∧ hI u (g 0) 0 = 0 ∧ hI u (g 1) 40 = 8 ∧ hI u (g 2) 40 = 6 ∧ hI u (g 5) = (fun _ => 0) ∧ hI u (g 0) 6 = 8 ∧ hI u (g 0) 7 = 6
theorem hI_pIn {h : Hp} {a k b : Nat} {x : Int32} (e : b ≠ a) : hI (pI h a k x) b = hI h b := by funext j; rw [hI_pI, if_neg (fun w => e w.1)]
theorem cpI_z (F T n : Nat) : cpI (fun _ => 0) F T n = (fun _ => 0) := by funext j; simp [cpI]
set_option maxRecDepth 20000 in
theorem e_step {h : Hp} {g : Nat → Nat} (hf : FM h g) : Con mX12_step 3 0 0 [vr (some (g 0))] h (fun v u => v = some (vi 41) ∧ S1 u g) := by
  obtain ⟨hm, z0, z1, z2, z3, z4, z5, z9, z10, z11, z64⟩ := id hf
  refine con_of rfl (Nat.le_of_ble_eq_true rfl) (by decide) ?_
  show J mX12_step 3 0 0 _ 0 [some (vr (some (g 0))), none] [] h
  refine j_aload_n dX12_step_0 rfl ?_
  refine j_getI dX12_step_1 fl_X12_227 rfl hm.1 ?_
  rw [fmI z0 16 (v := 0) rfl]
  refine j_bipush (v := 40) dX12_step_4 (by decide) ?_
  refine j_icmp_ne 25 dX12_step_6 (by decide) (fun c_6 => ?_) (fun c_6 => ?_)
  · refine j_aload_n dX12_step_25 rfl ?_
    refine j_dup dX12_step_26 rfl ?_
    refine j_getI dX12_step_27 fl_X12_227 rfl hm.1 ?_
    rw [fmI z0 16 (v := 0) rfl]
    refine j_iconst (v := 1) dX12_step_30 (by decide) ?_
    refine j_iadd dX12_step_31 ?_
    refine j_putI dX12_step_32 fl_X12_227 rfl rfl rfl hm.1 ?_
    refine j_aload_n dX12_step_35 rfl ?_
    refine j_iconst (v := 0) dX12_step_36 (by decide) ?_
    refine j_putI dX12_step_37 fl_X12_230 rfl rfl rfl hm.1 ?_
    refine j_aload_n dX12_step_40 rfl ?_
    refine j_aload_n dX12_step_41 rfl ?_
    refine j_getI dX12_step_42 fl_X12_227 rfl hm.1 ?_
    refine j_iconst (v := 1) dX12_step_45 (by decide) ?_
    refine j_isub dX12_step_46 ?_
    rw [show hI (pI (pI h (g 0) 16 (0 + 1)) (g 0) 17 0) (g 0) 16 - 1 = nI 0 by simp [hI_pI]; rfl]
    refine j_callV1 dX12_step_47 vl_X12_233 (c_stepAt (h := pI (pI h (g 0) 16 (0 + 1)) (g 0) 17 0) 0 0 (by simp [hI_pI]; exact fmI z0 15 rfl) (by decide) (by decide) hm) hm.1 rfl (by decide) (by omega) (by omega) (Nat.le_of_ble_eq_true rfl) (fun v_47 u_47 p_47 => ?_)
    obtain ⟨e_, rfl⟩ := p_47
    rw [e_]
    clear e_
    dsimp only [rs]
    refine j_istore_n dX12_step_50 (by decide) ?_
    dsimp only [st1, st2, unL, List.set]
    refine j_aload_n dX12_step_51 rfl ?_
    refine j_bipush (v := 40) dX12_step_52 (by decide) ?_
    refine j_iload_n dX12_step_54 rfl ?_
    refine j_callV2 dX12_step_55 vl_X12_198 (c_copySheet (s := 40) (t := 41) hm (by decide) (by decide)) hm.1 rfl (by decide) (by omega) (by omega) (Nat.le_of_ble_eq_true rfl) (fun v_55 u_55 p_55 => ?_)
    obtain ⟨e_, rfl⟩ := p_55
    rw [e_, if_neg (by decide)]
    clear e_
    dsimp only [rs]
    refine j_aload_n dX12_step_58 rfl ?_
    refine j_iconst (v := 0) dX12_step_59 (by decide) ?_
    refine j_putI dX12_step_60 fl_X12_205 rfl rfl rfl hm.1 ?_
    refine j_iload_n dX12_step_63 rfl ?_
    exact j_ireturn dX12_step_64 rfl rfl (⟨rfl, hm, by simp [hI_pI, hI_sI, cps, cs5, cs4, cs3, mNe hm (i := 0) (j := 1) rfl rfl rfl, mNe hm (i := 0) (j := 2) rfl rfl rfl, mNe hm (i := 0) (j := 3) rfl rfl rfl, mNe hm (i := 0) (j := 4) rfl rfl rfl, mNe hm (i := 0) (j := 5) rfl rfl rfl, mNe hm (i := 1) (j := 0) rfl rfl rfl, mNe hm (i := 1) (j := 2) rfl rfl rfl, mNe hm (i := 1) (j := 3) rfl rfl rfl, mNe hm (i := 1) (j := 4) rfl rfl rfl, mNe hm (i := 1) (j := 5) rfl rfl rfl, mNe hm (i := 2) (j := 0) rfl rfl rfl, mNe hm (i := 2) (j := 1) rfl rfl rfl, mNe hm (i := 2) (j := 3) rfl rfl rfl, mNe hm (i := 2) (j := 4) rfl rfl rfl, mNe hm (i := 2) (j := 5) rfl rfl rfl, mNe hm (i := 5) (j := 0) rfl rfl rfl, mNe hm (i := 5) (j := 1) rfl rfl rfl, mNe hm (i := 5) (j := 2) rfl rfl rfl, mNe hm (i := 5) (j := 3) rfl rfl rfl, mNe hm (i := 5) (j := 4) rfl rfl rfl]; exact fmI z0 0 rfl, by simp [hI_pI, hI_sI, cps, cs5, cs4, cs3, mNe hm (i := 0) (j := 1) rfl rfl rfl, mNe hm (i := 0) (j := 2) rfl rfl rfl, mNe hm (i := 0) (j := 3) rfl rfl rfl, mNe hm (i := 0) (j := 4) rfl rfl rfl, mNe hm (i := 0) (j := 5) rfl rfl rfl, mNe hm (i := 1) (j := 0) rfl rfl rfl, mNe hm (i := 1) (j := 2) rfl rfl rfl, mNe hm (i := 1) (j := 3) rfl rfl rfl, mNe hm (i := 1) (j := 4) rfl rfl rfl, mNe hm (i := 1) (j := 5) rfl rfl rfl, mNe hm (i := 2) (j := 0) rfl rfl rfl, mNe hm (i := 2) (j := 1) rfl rfl rfl, mNe hm (i := 2) (j := 3) rfl rfl rfl, mNe hm (i := 2) (j := 4) rfl rfl rfl, mNe hm (i := 2) (j := 5) rfl rfl rfl, mNe hm (i := 5) (j := 0) rfl rfl rfl, mNe hm (i := 5) (j := 1) rfl rfl rfl, mNe hm (i := 5) (j := 2) rfl rfl rfl, mNe hm (i := 5) (j := 3) rfl rfl rfl, mNe hm (i := 5) (j := 4) rfl rfl rfl]; rw [z1]; rfl, by simp [hI_pI, hI_sI, cps, cs5, cs4, cs3, mNe hm (i := 0) (j := 1) rfl rfl rfl, mNe hm (i := 0) (j := 2) rfl rfl rfl, mNe hm (i := 0) (j := 3) rfl rfl rfl, mNe hm (i := 0) (j := 4) rfl rfl rfl, mNe hm (i := 0) (j := 5) rfl rfl rfl, mNe hm (i := 1) (j := 0) rfl rfl rfl, mNe hm (i := 1) (j := 2) rfl rfl rfl, mNe hm (i := 1) (j := 3) rfl rfl rfl, mNe hm (i := 1) (j := 4) rfl rfl rfl, mNe hm (i := 1) (j := 5) rfl rfl rfl, mNe hm (i := 2) (j := 0) rfl rfl rfl, mNe hm (i := 2) (j := 1) rfl rfl rfl, mNe hm (i := 2) (j := 3) rfl rfl rfl, mNe hm (i := 2) (j := 4) rfl rfl rfl, mNe hm (i := 2) (j := 5) rfl rfl rfl, mNe hm (i := 5) (j := 0) rfl rfl rfl, mNe hm (i := 5) (j := 1) rfl rfl rfl, mNe hm (i := 5) (j := 2) rfl rfl rfl, mNe hm (i := 5) (j := 3) rfl rfl rfl, mNe hm (i := 5) (j := 4) rfl rfl rfl]; rw [z2]; rfl, by rw [hI_pIn (mNe hm (i := 5) (j := 0) rfl rfl rfl), cps, hI_sI1, hI_pIn (mNe hm (i := 5) (j := 0) rfl rfl rfl), hI_pIn (mNe hm (i := 5) (j := 0) rfl rfl rfl), z5, cpI_z], by simp [hI_pI, hI_sI, cps, cs5, cs4, cs3, mNe hm (i := 0) (j := 1) rfl rfl rfl, mNe hm (i := 0) (j := 2) rfl rfl rfl, mNe hm (i := 0) (j := 3) rfl rfl rfl, mNe hm (i := 0) (j := 4) rfl rfl rfl, mNe hm (i := 0) (j := 5) rfl rfl rfl, mNe hm (i := 1) (j := 0) rfl rfl rfl, mNe hm (i := 1) (j := 2) rfl rfl rfl, mNe hm (i := 1) (j := 3) rfl rfl rfl, mNe hm (i := 1) (j := 4) rfl rfl rfl, mNe hm (i := 1) (j := 5) rfl rfl rfl, mNe hm (i := 2) (j := 0) rfl rfl rfl, mNe hm (i := 2) (j := 1) rfl rfl rfl, mNe hm (i := 2) (j := 3) rfl rfl rfl, mNe hm (i := 2) (j := 4) rfl rfl rfl, mNe hm (i := 2) (j := 5) rfl rfl rfl, mNe hm (i := 5) (j := 0) rfl rfl rfl, mNe hm (i := 5) (j := 1) rfl rfl rfl, mNe hm (i := 5) (j := 2) rfl rfl rfl, mNe hm (i := 5) (j := 3) rfl rfl rfl, mNe hm (i := 5) (j := 4) rfl rfl rfl]; exact fmI z0 6 rfl, by simp [hI_pI, hI_sI, cps, cs5, cs4, cs3, mNe hm (i := 0) (j := 1) rfl rfl rfl, mNe hm (i := 0) (j := 2) rfl rfl rfl, mNe hm (i := 0) (j := 3) rfl rfl rfl, mNe hm (i := 0) (j := 4) rfl rfl rfl, mNe hm (i := 0) (j := 5) rfl rfl rfl, mNe hm (i := 1) (j := 0) rfl rfl rfl, mNe hm (i := 1) (j := 2) rfl rfl rfl, mNe hm (i := 1) (j := 3) rfl rfl rfl, mNe hm (i := 1) (j := 4) rfl rfl rfl, mNe hm (i := 1) (j := 5) rfl rfl rfl, mNe hm (i := 2) (j := 0) rfl rfl rfl, mNe hm (i := 2) (j := 1) rfl rfl rfl, mNe hm (i := 2) (j := 3) rfl rfl rfl, mNe hm (i := 2) (j := 4) rfl rfl rfl, mNe hm (i := 2) (j := 5) rfl rfl rfl, mNe hm (i := 5) (j := 0) rfl rfl rfl, mNe hm (i := 5) (j := 1) rfl rfl rfl, mNe hm (i := 5) (j := 2) rfl rfl rfl, mNe hm (i := 5) (j := 3) rfl rfl rfl, mNe hm (i := 5) (j := 4) rfl rfl rfl]; exact fmI z0 7 rfl⟩)
  · exact absurd (by decide) c_6

