/-! ===== the model: lines ===== -/
set_option maxRecDepth 20000 in
theorem c_setLine0 {h : Hp} {g : Nat → Nat} (s : Nat) (hs : s < 122) (k : Nat) (hk : k < 32) (x : Int32) (hm : MW h g) : Con mX12_setLine 1 0 0 [vr (some (g 0)), vi (nI s), vi 0, vi (nI k), vi x] h (fun v u => u = pI h (g 3) (32 * s + k) x ∧ v = none) := by
  refine con_of rfl (Nat.le_of_ble_eq_true rfl) (by decide) ?_
  show J mX12_setLine 1 0 0 _ 0 [some (vr (some (g 0))), some (vi (nI s)), some (vi 0), some (vi (nI k)), some (vi x)] [] h
  refine j_iload_n dX12_setLine_0 rfl ?_
  refine j_if_ne 20 dX12_setLine_1 (by decide) (fun c_1 => ?_) (fun c_1 => ?_)
  · exact absurd rfl c_1
  · refine j_aload_n dX12_setLine_4 rfl ?_
    refine j_getR dX12_setLine_5 fl_X12_16 rfl hm.1 (mO hm rfl) ?_
    refine j_bipush (v := 32) dX12_setLine_8 (by decide) ?_
    refine j_iload_n dX12_setLine_10 rfl ?_
    refine j_imul dX12_setLine_11 ?_
    refine j_iload_n dX12_setLine_12 rfl ?_
    refine j_iadd dX12_setLine_13 ?_
    refine j_iload dX12_setLine_14 rfl ?_
    refine j_iast _ dX12_setLine_16 (mK hm rfl) (by first | with_reducible rfl | (simp (disch := omega) only [li_1, li_2, li_3, li_4, li_5, li_6, li_7, li_8, li_10, li_20, li_24, li_32, li_40, li_64, li_320, li_39, li_41, li_81, li_121, li_100000, pk_sub, pk_mul, nI_add, inc1, dec1]; with_reducible rfl)) (Nat.lt_of_lt_of_eq (by omega) (mN hm (k := 3) (n := 3904) rfl rfl).symm) (Nat.lt_of_le_of_lt (Nat.le_of_eq (mN hm (k := 3) (n := 3904) rfl rfl)) (by decide)) ?_
    refine j_goto 33 dX12_setLine_17 (by decide) ?_
    exact j_return dX12_setLine_33 rfl (⟨rfl, rfl⟩)

set_option maxRecDepth 20000 in
theorem c_setLine1 {h : Hp} {g : Nat → Nat} (s : Nat) (hs : s < 122) (k : Nat) (hk : k < 10) (x : Int32) (hm : MW h g) : Con mX12_setLine 1 0 0 [vr (some (g 0)), vi (nI s), vi 1, vi (nI k), vi x] h (fun v u => u = pI h (g 4) (10 * s + k) x ∧ v = none) := by
  refine con_of rfl (Nat.le_of_ble_eq_true rfl) (by decide) ?_
  show J mX12_setLine 1 0 0 _ 0 [some (vr (some (g 0))), some (vi (nI s)), some (vi 1), some (vi (nI k)), some (vi x)] [] h
  refine j_iload_n dX12_setLine_0 rfl ?_
  refine j_if_ne 20 dX12_setLine_1 (by decide) (fun c_1 => ?_) (fun c_1 => ?_)
  · refine j_aload_n dX12_setLine_20 rfl ?_
    refine j_getR dX12_setLine_21 fl_X12_19 rfl hm.1 (mO hm rfl) ?_
    refine j_bipush (v := 10) dX12_setLine_24 (by decide) ?_
    refine j_iload_n dX12_setLine_26 rfl ?_
    refine j_imul dX12_setLine_27 ?_
    refine j_iload_n dX12_setLine_28 rfl ?_
    refine j_iadd dX12_setLine_29 ?_
    refine j_iload dX12_setLine_30 rfl ?_
    refine j_iast _ dX12_setLine_32 (mK hm rfl) (by first | with_reducible rfl | (simp (disch := omega) only [li_1, li_2, li_3, li_4, li_5, li_6, li_7, li_8, li_10, li_20, li_24, li_32, li_40, li_64, li_320, li_39, li_41, li_81, li_121, li_100000, pk_sub, pk_mul, nI_add, inc1, dec1]; with_reducible rfl)) (Nat.lt_of_lt_of_eq (by omega) (mN hm (k := 4) (n := 1220) rfl rfl).symm) (Nat.lt_of_le_of_lt (Nat.le_of_eq (mN hm (k := 4) (n := 1220) rfl rfl)) (by decide)) ?_
    exact j_return dX12_setLine_33 rfl (⟨rfl, rfl⟩)
  · exact absurd (by decide) c_1

set_option maxRecDepth 20000 in
theorem c_setLines0 {h : Hp} {g : Nat → Nat} (s : Nat) (hs : s < 122) (x : Int32) (hm : MW h g) : Con mX12_setLines 1 0 0 [vr (some (g 0)), vi (nI s), vi 0, vi x] h (fun v u => u = pI h (g 1) s x ∧ v = none) := by
  refine con_of rfl (Nat.le_of_ble_eq_true rfl) (by decide) ?_
  show J mX12_setLines 1 0 0 _ 0 [some (vr (some (g 0))), some (vi (nI s)), some (vi 0), some (vi x)] [] h
  refine j_iload_n dX12_setLines_0 rfl ?_
  refine j_if_ne 14 dX12_setLines_1 (by decide) (fun c_1 => ?_) (fun c_1 => ?_)
  · exact absurd rfl c_1
  · refine j_aload_n dX12_setLines_4 rfl ?_
    refine j_getR dX12_setLines_5 fl_X12_7 rfl hm.1 (mO hm rfl) ?_
    refine j_iload_n dX12_setLines_8 rfl ?_
    refine j_iload_n dX12_setLines_9 rfl ?_
    refine j_iast _ dX12_setLines_10 (mK hm rfl) (by first | with_reducible rfl | (simp (disch := omega) only [li_1, li_2, li_3, li_4, li_5, li_6, li_7, li_8, li_10, li_20, li_24, li_32, li_40, li_64, li_320, li_39, li_41, li_81, li_121, li_100000, pk_sub, pk_mul, nI_add, inc1, dec1]; with_reducible rfl)) (Nat.lt_of_lt_of_eq (by omega) (mN hm (k := 1) (n := 122) rfl rfl).symm) (Nat.lt_of_le_of_lt (Nat.le_of_eq (mN hm (k := 1) (n := 122) rfl rfl)) (by decide)) ?_
    refine j_goto 21 dX12_setLines_11 (by decide) ?_
    exact j_return dX12_setLines_21 rfl (⟨rfl, rfl⟩)

set_option maxRecDepth 20000 in
theorem c_setLines1 {h : Hp} {g : Nat → Nat} (s : Nat) (hs : s < 122) (x : Int32) (hm : MW h g) : Con mX12_setLines 1 0 0 [vr (some (g 0)), vi (nI s), vi 1, vi x] h (fun v u => u = pI h (g 2) s x ∧ v = none) := by
  refine con_of rfl (Nat.le_of_ble_eq_true rfl) (by decide) ?_
  show J mX12_setLines 1 0 0 _ 0 [some (vr (some (g 0))), some (vi (nI s)), some (vi 1), some (vi x)] [] h
  refine j_iload_n dX12_setLines_0 rfl ?_
  refine j_if_ne 14 dX12_setLines_1 (by decide) (fun c_1 => ?_) (fun c_1 => ?_)
  · refine j_aload_n dX12_setLines_14 rfl ?_
    refine j_getR dX12_setLines_15 fl_X12_13 rfl hm.1 (mO hm rfl) ?_
    refine j_iload_n dX12_setLines_18 rfl ?_
    refine j_iload_n dX12_setLines_19 rfl ?_
    refine j_iast _ dX12_setLines_20 (mK hm rfl) (by first | with_reducible rfl | (simp (disch := omega) only [li_1, li_2, li_3, li_4, li_5, li_6, li_7, li_8, li_10, li_20, li_24, li_32, li_40, li_64, li_320, li_39, li_41, li_81, li_121, li_100000, pk_sub, pk_mul, nI_add, inc1, dec1]; with_reducible rfl)) (Nat.lt_of_lt_of_eq (by omega) (mN hm (k := 2) (n := 122) rfl rfl).symm) (Nat.lt_of_le_of_lt (Nat.le_of_eq (mN hm (k := 2) (n := 122) rfl rfl)) (by decide)) ?_
    exact j_return dX12_setLines_21 rfl (⟨rfl, rfl⟩)
  · exact absurd (by decide) c_1

set_option maxRecDepth 20000 in
theorem c_onLine0 {h : Hp} (k i : Nat)  : Con mX12_onLine 1 0 0 [vi 0, vi (nI k), vi (nI i)] h (fun v u => u = h ∧ v = some (vi (nI (10 * k + i)))) := by
  refine con_of rfl (Nat.le_of_ble_eq_true rfl) (by decide) ?_
  show J mX12_onLine 1 0 0 _ 0 [some (vi 0), some (vi (nI k)), some (vi (nI i))] [] h
  refine j_iload_n dX12_onLine_0 rfl ?_
  refine j_if_ne 13 dX12_onLine_1 (by decide) (fun c_1 => ?_) (fun c_1 => ?_)
  · exact absurd rfl c_1
  · refine j_bipush (v := 10) dX12_onLine_4 (by decide) ?_
    refine j_iload_n dX12_onLine_6 rfl ?_
    refine j_imul dX12_onLine_7 ?_
    refine j_iload_n dX12_onLine_8 rfl ?_
    refine j_iadd dX12_onLine_9 ?_
    refine j_goto 19 dX12_onLine_10 (by decide) ?_
    exact j_ireturn dX12_onLine_19 rfl rfl (⟨rfl, by rw [li_10, pk_mul, nI_add]⟩)

set_option maxRecDepth 20000 in
theorem c_onLine1 {h : Hp} (k i : Nat)  : Con mX12_onLine 1 0 0 [vi 1, vi (nI k), vi (nI i)] h (fun v u => u = h ∧ v = some (vi (nI (10 * i + k)))) := by
  refine con_of rfl (Nat.le_of_ble_eq_true rfl) (by decide) ?_
  show J mX12_onLine 1 0 0 _ 0 [some (vi 1), some (vi (nI k)), some (vi (nI i))] [] h
  refine j_iload_n dX12_onLine_0 rfl ?_
  refine j_if_ne 13 dX12_onLine_1 (by decide) (fun c_1 => ?_) (fun c_1 => ?_)
  · refine j_bipush (v := 10) dX12_onLine_13 (by decide) ?_
    refine j_iload_n dX12_onLine_15 rfl ?_
    refine j_imul dX12_onLine_16 ?_
    refine j_iload_n dX12_onLine_17 rfl ?_
    refine j_iadd dX12_onLine_18 ?_
    exact j_ireturn dX12_onLine_19 rfl rfl (⟨rfl, by rw [li_10, pk_mul, nI_add]⟩)
  · exact absurd (by decide) c_1

set_option maxRecDepth 20000 in
theorem c_longOf0 {h : Hp}  : Con mX12_longOf 1 0 0 [vi 0] h (fun v u => u = h ∧ v = some (vi (10))) := by
  refine con_of rfl (Nat.le_of_ble_eq_true rfl) (by decide) ?_
  show J mX12_longOf 1 0 0 _ 0 [some (vi 0)] [] h
  refine j_iload_n dX12_longOf_0 rfl ?_
  refine j_if_ne 9 dX12_longOf_1 (by decide) (fun c_1 => ?_) (fun c_1 => ?_)
  · exact absurd rfl c_1
  · refine j_bipush (v := 10) dX12_longOf_4 (by decide) ?_
    refine j_goto 11 dX12_longOf_6 (by decide) ?_
    exact j_ireturn dX12_longOf_11 rfl rfl (⟨rfl, rfl⟩)

set_option maxRecDepth 20000 in
theorem c_longOf1 {h : Hp}  : Con mX12_longOf 1 0 0 [vi 1] h (fun v u => u = h ∧ v = some (vi (32))) := by
  refine con_of rfl (Nat.le_of_ble_eq_true rfl) (by decide) ?_
  show J mX12_longOf 1 0 0 _ 0 [some (vi 1)] [] h
  refine j_iload_n dX12_longOf_0 rfl ?_
  refine j_if_ne 9 dX12_longOf_1 (by decide) (fun c_1 => ?_) (fun c_1 => ?_)
  · refine j_bipush (v := 32) dX12_longOf_9 (by decide) ?_
    exact j_ireturn dX12_longOf_11 rfl rfl (⟨rfl, rfl⟩)
  · exact absurd (by decide) c_1

/-- n places from T on, each tenth, as those from F on -/
def cpS (f : Nat → Int32) (F T n : Nat) : Nat → Int32 := fun j => if T ≤ j ∧ (j - T) % 10 = 0 ∧ (j - T) / 10 < n then f (F + (j - T)) else f j
theorem cpS_0 (f : Nat → Int32) (F T : Nat) : cpS f F T 0 = f := by funext j; rw [cpS, if_neg (by omega)]
theorem cpS_step {f : Nat → Int32} {F T n i : Nat} (hi : i < n) (ho : ∀ a, a < n → ∀ b, b < n → F + 10 * a ≠ T + 10 * b) : upd (cpS f F T i) (T + 10 * i) (cpS f F T i (F + 10 * i)) = cpS f F T (i + 1) := by
  have e1 : cpS f F T i (F + 10 * i) = f (F + 10 * i) := by
    rw [cpS]; split
    · rename_i q
      exact absurd (show F + 10 * i = T + 10 * ((F + 10 * i - T) / 10) by omega) (ho i hi _ (by omega))
    · rfl
  rw [e1]
  funext j
  by_cases hj : j = T + 10 * i
  · subst hj
    simp only [upd, cpS]
    rw [if_pos trivial, if_pos (by omega), Nat.add_sub_cancel_left]
  · simp only [upd, if_neg hj, cpS]
    by_cases q : T ≤ j ∧ (j - T) % 10 = 0 ∧ (j - T) / 10 < i
    · rw [if_pos q, if_pos (by omega)]
    · rw [if_neg q, if_neg (by omega)]
/-- n places from T on, each w-th, 0 -/
def zS (w : Nat) (f : Nat → Int32) (T n : Nat) : Nat → Int32 := fun j => if T ≤ j ∧ (j - T) % w = 0 ∧ (j - T) / w < n then 0 else f j
theorem zS_0 (w : Nat) (f : Nat → Int32) (T : Nat) : zS w f T 0 = f := by funext j; rw [zS, if_neg (fun c => Nat.not_lt_zero _ c.2.2)]
theorem zS_step {w : Nat} (hw : 0 < w) {f : Nat → Int32} {T i : Nat} : upd (zS w f T i) (T + w * i) 0 = zS w f T (i + 1) := by
  funext j
  by_cases hj : j = T + w * i
  · subst hj
    simp only [upd, zS]
    rw [if_pos trivial, if_pos ⟨by omega, by rw [Nat.add_sub_cancel_left, Nat.mul_mod_right], by rw [Nat.add_sub_cancel_left, Nat.mul_div_cancel_left _ hw]; omega⟩]
  · simp only [upd, if_neg hj, zS]
    by_cases q : T ≤ j ∧ (j - T) % w = 0 ∧ (j - T) / w < i
    · rw [if_pos q, if_pos ⟨q.1, q.2.1, by omega⟩]
    · rw [if_neg q, if_neg (fun c => q ⟨c.1, c.2.1, by
        have e : (j - T) / w ≠ i := fun e => hj (by have := Nat.div_add_mod (j - T) w; rw [e, c.2.1] at this; omega)
        omega⟩)]
theorem li_12800 : (12800 : Int32) = nI 12800 := rfl
set_option maxRecDepth 20000 in
theorem l_comeLine0 {h : Hp} {g : Nat → Nat} {s a b : Nat} {post : Option Sv ⊕ String → Hp → Prop} (hm : MW h g) (hs : s < 122) (hs4 : s ≠ 40) (ha : a < 32) (hb : b < 32) (fin : post (.inl none) (sI h (g 5) (cpI (hI h (g 5)) (320 * s + 10 * a) (12800 + 10 * b) 10))) : ∀ (n : Nat) (i : Nat), 10 - i < n → i ≤ 10 → J mX12_comeLine 2 0 0 post 19 [some (vr (some (g 0))), some (vi 0), some (vi (nI a)), some (vi (nI s)), some (vi (nI b)), some (vi (nI i))] [] (sI h (g 5) (cpI (hI h (g 5)) (320 * s + 10 * a) (12800 + 10 * b) i)) := by
  intro n
  induction n with
  | zero => intro i hlt; omega
  | succ n ih =>
    intro i hlt hinv
    refine j_iload dX12_comeLine_19 rfl ?_
    refine j_iload_n dX12_comeLine_21 rfl ?_
    refine j_callS1 dX12_comeLine_22 sl_X12_822 c_longOf0 rfl (by decide) (by omega) (by omega) (Nat.le_of_ble_eq_true rfl) (fun v_22 u_22 p_22 => ?_)
    obtain ⟨e_22, rfl⟩ := p_22
    rw [e_22]
    clear e_22
    dsimp only [rs]
    refine j_icmp_ge 69 dX12_comeLine_25 (by decide) (fun c_25 => ?_) (fun c_25 => ?_)
    · have he : i = 10 := by rw [li_10, nI_leI (by omega) (by omega)] at c_25; omega
      subst he
      exact j_return dX12_comeLine_69 rfl fin
    · have hlt2 : i < 10 := by rw [li_10, nI_leI (by omega) (by omega)] at c_25; omega
      refine j_aload_n dX12_comeLine_28 rfl ?_
      refine j_getR dX12_comeLine_29 fl_X12_23 rfl hm.1 (mO hm rfl) ?_
      refine j_sipush (v := 12800) dX12_comeLine_32 (by decide) ?_
      refine j_iload_n dX12_comeLine_35 rfl ?_
      refine j_iload dX12_comeLine_36 rfl ?_
      refine j_iload dX12_comeLine_38 rfl ?_
      refine j_callS3 dX12_comeLine_40 sl_X12_825 (c_onLine0 b i) rfl (by decide) (by omega) (by omega) (Nat.le_of_ble_eq_true rfl) (fun v_40 u_40 p_40 => ?_)
      obtain ⟨e_40, rfl⟩ := p_40
      rw [e_40]
      clear e_40
      dsimp only [rs]
      refine j_iadd dX12_comeLine_43 ?_
      refine j_aload_n dX12_comeLine_44 rfl ?_
      refine j_getR dX12_comeLine_45 fl_X12_23 rfl hm.1 (mO hm rfl) ?_
      refine j_sipush (v := 320) dX12_comeLine_48 (by decide) ?_
      refine j_iload_n dX12_comeLine_51 rfl ?_
      refine j_imul dX12_comeLine_52 ?_
      refine j_iload_n dX12_comeLine_53 rfl ?_
      refine j_iload_n dX12_comeLine_54 rfl ?_
      refine j_iload dX12_comeLine_55 rfl ?_
      refine j_callS3 dX12_comeLine_57 sl_X12_825 (c_onLine0 a i) rfl (by decide) (by omega) (by omega) (Nat.le_of_ble_eq_true rfl) (fun v_57 u_57 p_57 => ?_)
      obtain ⟨e_57, rfl⟩ := p_57
      rw [e_57]
      clear e_57
      dsimp only [rs]
      refine j_iadd dX12_comeLine_60 ?_
      refine j_iald ((320 * s + 10 * a) + i) dX12_comeLine_61 (mK hm rfl) (by simp (disch := omega) only [li_12800, li_1, li_2, li_3, li_4, li_5, li_6, li_7, li_8, li_10, li_20, li_24, li_32, li_40, li_64, li_320, pk_sub, pk_mul, nI_add, inc1]; try (congr 1; (try simp only [Nat.add_sub_cancel]); (try omega))) (Nat.lt_of_lt_of_eq (by omega) (mN hm (k := 5) (n := 39040) rfl rfl).symm) (Nat.lt_of_le_of_lt (Nat.le_of_eq (mN hm (k := 5) (n := 39040) rfl rfl)) (by decide)) ?_
      refine j_iast ((12800 + 10 * b) + i) dX12_comeLine_62 (mK hm rfl) (by simp (disch := omega) only [li_12800, li_1, li_2, li_3, li_4, li_5, li_6, li_7, li_8, li_10, li_20, li_24, li_32, li_40, li_64, li_320, pk_sub, pk_mul, nI_add, inc1]; try (congr 1; (try simp only [Nat.add_sub_cancel]); (try omega))) (Nat.lt_of_lt_of_eq (by omega) (mN hm (k := 5) (n := 39040) rfl rfl).symm) (Nat.lt_of_le_of_lt (Nat.le_of_eq (mN hm (k := 5) (n := 39040) rfl rfl)) (by decide)) ?_
      rw [pI_sI, hI_sI1, cpI_step (n := 10) (by omega) hlt2]
      refine j_iinc dX12_comeLine_63 rfl ?_
      dsimp only [st1, st2, unL, List.set]
      refine j_goto 19 dX12_comeLine_66 (by decide) ?_
      refine j_lle (lv' := [some (vr (some (g 0))), some (vi 0), some (vi (nI a)), some (vi (nI s)), some (vi (nI b)), some (vi (nI (i + 1)))]) (by simp [lle, nI_1]) ?_
      exact ih (i + 1) (by omega) (by omega)

set_option maxRecDepth 20000 in
theorem c_comeLine0 {h : Hp} {g : Nat → Nat} {s a b : Nat} (hm : MW h g) (hs : s < 122) (hs4 : s ≠ 40) (ha : a < 32) (hb : b < 32) : Con mX12_comeLine 2 0 0 [vr (some (g 0)), vi 0, vi (nI a), vi (nI s), vi (nI b)] h (fun v u => u = sI (pI h (g 3) (1280 + b) (hI h (g 3) (32 * s + a))) (g 5) (cpI (hI h (g 5)) (320 * s + 10 * a) (12800 + 10 * b) 10) ∧ v = none) := by
  refine con_of rfl (Nat.le_of_ble_eq_true rfl) (by decide) ?_
  show J mX12_comeLine 2 0 0 _ 0 [some (vr (some (g 0))), some (vi 0), some (vi (nI a)), some (vi (nI s)), some (vi (nI b)), none] [] h
  refine j_aload_n dX12_comeLine_0 rfl ?_
  refine j_bipush (v := 40) dX12_comeLine_1 (by decide) ?_
  refine j_iload_n dX12_comeLine_3 rfl ?_
  refine j_iload dX12_comeLine_4 rfl ?_
  refine j_aload_n dX12_comeLine_6 rfl ?_
  refine j_iload_n dX12_comeLine_7 rfl ?_
  refine j_iload_n dX12_comeLine_8 rfl ?_
  refine j_iload_n dX12_comeLine_9 rfl ?_
  refine j_callV3 dX12_comeLine_10 vl_X12_213 (c_lineAt0 s hs a ha hm) hm.1 rfl (by decide) (by omega) (by omega) (Nat.le_of_ble_eq_true rfl) (fun v_10 u_10 p_10 => ?_)
  obtain ⟨e_10, rfl⟩ := p_10
  rw [e_10]
  clear e_10
  dsimp only [rs]
  refine j_callV4 dX12_comeLine_13 vl_X12_818 (c_setLine0 40 (by decide) b hb _ hm) hm.1 rfl (by decide) (by omega) (by omega) (Nat.le_of_ble_eq_true rfl) (fun v_13 u_13 p_13 => ?_)
  obtain ⟨rfl, rfl⟩ := p_13
  dsimp only [rs]
  refine j_iconst (v := 0) dX12_comeLine_16 (by decide) ?_
  refine j_istore dX12_comeLine_17 (by decide) ?_
  dsimp only [st1, st2, unL, List.set]
  refine j_lle (lv' := [some (vr (some (g 0))), some (vi 0), some (vi (nI a)), some (vi (nI s)), some (vi (nI b)), some (vi (nI 0))]) (by simp [lle]; rfl) ?_
  have z : sI (pI h (g 3) (1280 + b) (hI h (g 3) (32 * s + a))) (g 5) (cpI (hI (pI h (g 3) (1280 + b) (hI h (g 3) (32 * s + a))) (g 5)) (320 * s + 10 * a) (12800 + 10 * b) 0) = (pI h (g 3) (1280 + b) (hI h (g 3) (32 * s + a))) := by rw [cpI_0, sI_self]
  rw [← z]
  refine l_comeLine0 (h := (pI h (g 3) (1280 + b) (hI h (g 3) (32 * s + a)))) hm hs hs4 ha hb ?_ 11 0 (by omega) (by omega)
  exact ⟨by rw [hI_pIn (mNe hm (i := 5) (j := 3) rfl rfl rfl), sI_sI], rfl⟩

set_option maxRecDepth 20000 in
theorem l_emptyLine0 {h : Hp} {g : Nat → Nat} {b : Nat} {post : Option Sv ⊕ String → Hp → Prop} (hm : MW h g) (hb : b < 32) (fin : post (.inl none) (sI h (g 5) (zS 1 (hI h (g 5)) (12800 + 10 * b) 10))) : ∀ (n : Nat) (i : Nat), 10 - i < n → i ≤ 10 → J mX12_emptyLine 2 0 0 post 2 [some (vr (some (g 0))), some (vi 0), some (vi (nI b)), some (vi (nI i))] [] (sI h (g 5) (zS 1 (hI h (g 5)) (12800 + 10 * b) i)) := by
  intro n
  induction n with
  | zero => intro i hlt; omega
  | succ n ih =>
    intro i hlt hinv
    refine j_iload_n dX12_emptyLine_2 rfl ?_
    refine j_iload_n dX12_emptyLine_3 rfl ?_
    refine j_callS1 dX12_emptyLine_4 sl_X12_822 c_longOf0 rfl (by decide) (by omega) (by omega) (Nat.le_of_ble_eq_true rfl) (fun v_4 u_4 p_4 => ?_)
    obtain ⟨e_4, rfl⟩ := p_4
    rw [e_4]
    clear e_4
    dsimp only [rs]
    refine j_icmp_ge 32 dX12_emptyLine_7 (by decide) (fun c_7 => ?_) (fun c_7 => ?_)
    · have he : i = 10 := by rw [li_10, nI_leI (by omega) (by omega)] at c_7; omega
      subst he
      exact j_return dX12_emptyLine_32 rfl fin
    · have hlt2 : i < 10 := by rw [li_10, nI_leI (by omega) (by omega)] at c_7; omega
      refine j_aload_n dX12_emptyLine_10 rfl ?_
      refine j_getR dX12_emptyLine_11 fl_X12_23 rfl hm.1 (mO hm rfl) ?_
      refine j_sipush (v := 12800) dX12_emptyLine_14 (by decide) ?_
      refine j_iload_n dX12_emptyLine_17 rfl ?_
      refine j_iload_n dX12_emptyLine_18 rfl ?_
      refine j_iload_n dX12_emptyLine_19 rfl ?_
      refine j_callS3 dX12_emptyLine_20 sl_X12_825 (c_onLine0 b i) rfl (by decide) (by omega) (by omega) (Nat.le_of_ble_eq_true rfl) (fun v_20 u_20 p_20 => ?_)
      obtain ⟨e_20, rfl⟩ := p_20
      rw [e_20]
      clear e_20
      dsimp only [rs]
      refine j_iadd dX12_emptyLine_23 ?_
      refine j_iconst (v := 0) dX12_emptyLine_24 (by decide) ?_
      refine j_iast ((12800 + 10 * b) + 1 * i) dX12_emptyLine_25 (mK hm rfl) (by simp (disch := omega) only [li_12800, li_1, li_2, li_3, li_4, li_5, li_6, li_7, li_8, li_10, li_20, li_24, li_32, li_40, li_64, li_320, pk_sub, pk_mul, nI_add, inc1]; try (congr 1; (try simp only [Nat.add_sub_cancel]); (try omega))) (Nat.lt_of_lt_of_eq (by omega) (mN hm (k := 5) (n := 39040) rfl rfl).symm) (Nat.lt_of_le_of_lt (Nat.le_of_eq (mN hm (k := 5) (n := 39040) rfl rfl)) (by decide)) ?_
      rw [pI_sI, zS_step (by decide)]
      refine j_iinc dX12_emptyLine_26 rfl ?_
      dsimp only [st1, st2, unL, List.set]
      refine j_goto 2 dX12_emptyLine_29 (by decide) ?_
      refine j_lle (lv' := [some (vr (some (g 0))), some (vi 0), some (vi (nI b)), some (vi (nI (i + 1)))]) (by simp [lle, nI_1]) ?_
      exact ih (i + 1) (by omega) (by omega)

set_option maxRecDepth 20000 in
theorem c_emptyLine0 {h : Hp} {g : Nat → Nat} {b : Nat} (hm : MW h g) (hb : b < 32) : Con mX12_emptyLine 2 0 0 [vr (some (g 0)), vi 0, vi (nI b)] h (fun v u => u = (sI h (g 5) (zS 1 (hI h (g 5)) (12800 + 10 * b) 10)) ∧ v = none) := by
  refine con_of rfl (Nat.le_of_ble_eq_true rfl) (by decide) ?_
  show J mX12_emptyLine 2 0 0 _ 0 [some (vr (some (g 0))), some (vi 0), some (vi (nI b)), none] [] h
  refine j_iconst (v := 0) dX12_emptyLine_0 (by decide) ?_
  refine j_istore_n dX12_emptyLine_1 (by decide) ?_
  dsimp only [st1, st2, unL, List.set]
  refine j_lle (lv' := [some (vr (some (g 0))), some (vi 0), some (vi (nI b)), some (vi (nI 0))]) (by simp [lle]; rfl) ?_
  have z : (sI h (g 5) (zS 1 (hI h (g 5)) (12800 + 10 * b) 0)) = h := by rw [zS_0, sI_self]
  rw [← z]
  refine l_emptyLine0 (h := h) hm hb ?_ 11 0 (by omega) (by omega)
  rw [z]
  exact ⟨rfl, rfl⟩

set_option maxRecDepth 20000 in
theorem l_comeLine1 {h : Hp} {g : Nat → Nat} {s a b : Nat} {post : Option Sv ⊕ String → Hp → Prop} (hm : MW h g) (hs : s < 122) (hs4 : s ≠ 40) (ha : a < 10) (hb : b < 10) (fin : post (.inl none) (sI h (g 5) (cpS (hI h (g 5)) (320 * s + a) (12800 + b) 32))) : ∀ (n : Nat) (i : Nat), 32 - i < n → i ≤ 32 → J mX12_comeLine 2 0 0 post 19 [some (vr (some (g 0))), some (vi 1), some (vi (nI a)), some (vi (nI s)), some (vi (nI b)), some (vi (nI i))] [] (sI h (g 5) (cpS (hI h (g 5)) (320 * s + a) (12800 + b) i)) := by
  intro n
  induction n with
  | zero => intro i hlt; omega
  | succ n ih =>
    intro i hlt hinv
    refine j_iload dX12_comeLine_19 rfl ?_
    refine j_iload_n dX12_comeLine_21 rfl ?_
    refine j_callS1 dX12_comeLine_22 sl_X12_822 c_longOf1 rfl (by decide) (by omega) (by omega) (Nat.le_of_ble_eq_true rfl) (fun v_22 u_22 p_22 => ?_)
    obtain ⟨e_22, rfl⟩ := p_22
    rw [e_22]
    clear e_22
    dsimp only [rs]
    refine j_icmp_ge 69 dX12_comeLine_25 (by decide) (fun c_25 => ?_) (fun c_25 => ?_)
    · have he : i = 32 := by rw [li_32, nI_leI (by omega) (by omega)] at c_25; omega
      subst he
      exact j_return dX12_comeLine_69 rfl fin
    · have hlt2 : i < 32 := by rw [li_32, nI_leI (by omega) (by omega)] at c_25; omega
      refine j_aload_n dX12_comeLine_28 rfl ?_
      refine j_getR dX12_comeLine_29 fl_X12_23 rfl hm.1 (mO hm rfl) ?_
      refine j_sipush (v := 12800) dX12_comeLine_32 (by decide) ?_
      refine j_iload_n dX12_comeLine_35 rfl ?_
      refine j_iload dX12_comeLine_36 rfl ?_
      refine j_iload dX12_comeLine_38 rfl ?_
      refine j_callS3 dX12_comeLine_40 sl_X12_825 (c_onLine1 b i) rfl (by decide) (by omega) (by omega) (Nat.le_of_ble_eq_true rfl) (fun v_40 u_40 p_40 => ?_)
      obtain ⟨e_40, rfl⟩ := p_40
      rw [e_40]
      clear e_40
      dsimp only [rs]
      refine j_iadd dX12_comeLine_43 ?_
      refine j_aload_n dX12_comeLine_44 rfl ?_
      refine j_getR dX12_comeLine_45 fl_X12_23 rfl hm.1 (mO hm rfl) ?_
      refine j_sipush (v := 320) dX12_comeLine_48 (by decide) ?_
      refine j_iload_n dX12_comeLine_51 rfl ?_
      refine j_imul dX12_comeLine_52 ?_
      refine j_iload_n dX12_comeLine_53 rfl ?_
      refine j_iload_n dX12_comeLine_54 rfl ?_
      refine j_iload dX12_comeLine_55 rfl ?_
      refine j_callS3 dX12_comeLine_57 sl_X12_825 (c_onLine1 a i) rfl (by decide) (by omega) (by omega) (Nat.le_of_ble_eq_true rfl) (fun v_57 u_57 p_57 => ?_)
      obtain ⟨e_57, rfl⟩ := p_57
      rw [e_57]
      clear e_57
      dsimp only [rs]
      refine j_iadd dX12_comeLine_60 ?_
      refine j_iald ((320 * s + a) + 10 * i) dX12_comeLine_61 (mK hm rfl) (by simp (disch := omega) only [li_12800, li_1, li_2, li_3, li_4, li_5, li_6, li_7, li_8, li_10, li_20, li_24, li_32, li_40, li_64, li_320, pk_sub, pk_mul, nI_add, inc1]; try (congr 1; (try simp only [Nat.add_sub_cancel]); (try omega))) (Nat.lt_of_lt_of_eq (by omega) (mN hm (k := 5) (n := 39040) rfl rfl).symm) (Nat.lt_of_le_of_lt (Nat.le_of_eq (mN hm (k := 5) (n := 39040) rfl rfl)) (by decide)) ?_
      refine j_iast ((12800 + b) + 10 * i) dX12_comeLine_62 (mK hm rfl) (by simp (disch := omega) only [li_12800, li_1, li_2, li_3, li_4, li_5, li_6, li_7, li_8, li_10, li_20, li_24, li_32, li_40, li_64, li_320, pk_sub, pk_mul, nI_add, inc1]; try (congr 1; (try simp only [Nat.add_sub_cancel]); (try omega))) (Nat.lt_of_lt_of_eq (by omega) (mN hm (k := 5) (n := 39040) rfl rfl).symm) (Nat.lt_of_le_of_lt (Nat.le_of_eq (mN hm (k := 5) (n := 39040) rfl rfl)) (by decide)) ?_
      rw [pI_sI, hI_sI1, cpS_step (n := 32) hlt2 (fun x hx y hy => by omega)]
      refine j_iinc dX12_comeLine_63 rfl ?_
      dsimp only [st1, st2, unL, List.set]
      refine j_goto 19 dX12_comeLine_66 (by decide) ?_
      refine j_lle (lv' := [some (vr (some (g 0))), some (vi 1), some (vi (nI a)), some (vi (nI s)), some (vi (nI b)), some (vi (nI (i + 1)))]) (by simp [lle, nI_1]) ?_
      exact ih (i + 1) (by omega) (by omega)

set_option maxRecDepth 20000 in
theorem c_comeLine1 {h : Hp} {g : Nat → Nat} {s a b : Nat} (hm : MW h g) (hs : s < 122) (hs4 : s ≠ 40) (ha : a < 10) (hb : b < 10) : Con mX12_comeLine 2 0 0 [vr (some (g 0)), vi 1, vi (nI a), vi (nI s), vi (nI b)] h (fun v u => u = sI (pI h (g 4) (400 + b) (hI h (g 4) (10 * s + a))) (g 5) (cpS (hI h (g 5)) (320 * s + a) (12800 + b) 32) ∧ v = none) := by
  refine con_of rfl (Nat.le_of_ble_eq_true rfl) (by decide) ?_
  show J mX12_comeLine 2 0 0 _ 0 [some (vr (some (g 0))), some (vi 1), some (vi (nI a)), some (vi (nI s)), some (vi (nI b)), none] [] h
  refine j_aload_n dX12_comeLine_0 rfl ?_
  refine j_bipush (v := 40) dX12_comeLine_1 (by decide) ?_
  refine j_iload_n dX12_comeLine_3 rfl ?_
  refine j_iload dX12_comeLine_4 rfl ?_
  refine j_aload_n dX12_comeLine_6 rfl ?_
  refine j_iload_n dX12_comeLine_7 rfl ?_
  refine j_iload_n dX12_comeLine_8 rfl ?_
  refine j_iload_n dX12_comeLine_9 rfl ?_
  refine j_callV3 dX12_comeLine_10 vl_X12_213 (c_lineAt1 s hs a ha hm) hm.1 rfl (by decide) (by omega) (by omega) (Nat.le_of_ble_eq_true rfl) (fun v_10 u_10 p_10 => ?_)
  obtain ⟨e_10, rfl⟩ := p_10
  rw [e_10]
  clear e_10
  dsimp only [rs]
  refine j_callV4 dX12_comeLine_13 vl_X12_818 (c_setLine1 40 (by decide) b hb _ hm) hm.1 rfl (by decide) (by omega) (by omega) (Nat.le_of_ble_eq_true rfl) (fun v_13 u_13 p_13 => ?_)
  obtain ⟨rfl, rfl⟩ := p_13
  dsimp only [rs]
  refine j_iconst (v := 0) dX12_comeLine_16 (by decide) ?_
  refine j_istore dX12_comeLine_17 (by decide) ?_
  dsimp only [st1, st2, unL, List.set]
  refine j_lle (lv' := [some (vr (some (g 0))), some (vi 1), some (vi (nI a)), some (vi (nI s)), some (vi (nI b)), some (vi (nI 0))]) (by simp [lle]; rfl) ?_
  have z : sI (pI h (g 4) (400 + b) (hI h (g 4) (10 * s + a))) (g 5) (cpS (hI (pI h (g 4) (400 + b) (hI h (g 4) (10 * s + a))) (g 5)) (320 * s + a) (12800 + b) 0) = (pI h (g 4) (400 + b) (hI h (g 4) (10 * s + a))) := by rw [cpS_0, sI_self]
  rw [← z]
  refine l_comeLine1 (h := (pI h (g 4) (400 + b) (hI h (g 4) (10 * s + a)))) hm hs hs4 ha hb ?_ 33 0 (by omega) (by omega)
  exact ⟨by rw [hI_pIn (mNe hm (i := 5) (j := 4) rfl rfl rfl), sI_sI], rfl⟩

set_option maxRecDepth 20000 in
theorem l_emptyLine1 {h : Hp} {g : Nat → Nat} {b : Nat} {post : Option Sv ⊕ String → Hp → Prop} (hm : MW h g) (hb : b < 10) (fin : post (.inl none) (sI h (g 5) (zS 10 (hI h (g 5)) (12800 + b) 32))) : ∀ (n : Nat) (i : Nat), 32 - i < n → i ≤ 32 → J mX12_emptyLine 2 0 0 post 2 [some (vr (some (g 0))), some (vi 1), some (vi (nI b)), some (vi (nI i))] [] (sI h (g 5) (zS 10 (hI h (g 5)) (12800 + b) i)) := by
  intro n
  induction n with
  | zero => intro i hlt; omega
  | succ n ih =>
    intro i hlt hinv
    refine j_iload_n dX12_emptyLine_2 rfl ?_
    refine j_iload_n dX12_emptyLine_3 rfl ?_
    refine j_callS1 dX12_emptyLine_4 sl_X12_822 c_longOf1 rfl (by decide) (by omega) (by omega) (Nat.le_of_ble_eq_true rfl) (fun v_4 u_4 p_4 => ?_)
    obtain ⟨e_4, rfl⟩ := p_4
    rw [e_4]
    clear e_4
    dsimp only [rs]
    refine j_icmp_ge 32 dX12_emptyLine_7 (by decide) (fun c_7 => ?_) (fun c_7 => ?_)
    · have he : i = 32 := by rw [li_32, nI_leI (by omega) (by omega)] at c_7; omega
      subst he
      exact j_return dX12_emptyLine_32 rfl fin
    · have hlt2 : i < 32 := by rw [li_32, nI_leI (by omega) (by omega)] at c_7; omega
      refine j_aload_n dX12_emptyLine_10 rfl ?_
      refine j_getR dX12_emptyLine_11 fl_X12_23 rfl hm.1 (mO hm rfl) ?_
      refine j_sipush (v := 12800) dX12_emptyLine_14 (by decide) ?_
      refine j_iload_n dX12_emptyLine_17 rfl ?_
      refine j_iload_n dX12_emptyLine_18 rfl ?_
      refine j_iload_n dX12_emptyLine_19 rfl ?_
      refine j_callS3 dX12_emptyLine_20 sl_X12_825 (c_onLine1 b i) rfl (by decide) (by omega) (by omega) (Nat.le_of_ble_eq_true rfl) (fun v_20 u_20 p_20 => ?_)
      obtain ⟨e_20, rfl⟩ := p_20
      rw [e_20]
      clear e_20
      dsimp only [rs]
      refine j_iadd dX12_emptyLine_23 ?_
      refine j_iconst (v := 0) dX12_emptyLine_24 (by decide) ?_
      refine j_iast ((12800 + b) + 10 * i) dX12_emptyLine_25 (mK hm rfl) (by simp (disch := omega) only [li_12800, li_1, li_2, li_3, li_4, li_5, li_6, li_7, li_8, li_10, li_20, li_24, li_32, li_40, li_64, li_320, pk_sub, pk_mul, nI_add, inc1]; try (congr 1; (try simp only [Nat.add_sub_cancel]); (try omega))) (Nat.lt_of_lt_of_eq (by omega) (mN hm (k := 5) (n := 39040) rfl rfl).symm) (Nat.lt_of_le_of_lt (Nat.le_of_eq (mN hm (k := 5) (n := 39040) rfl rfl)) (by decide)) ?_
      rw [pI_sI, zS_step (by decide)]
      refine j_iinc dX12_emptyLine_26 rfl ?_
      dsimp only [st1, st2, unL, List.set]
      refine j_goto 2 dX12_emptyLine_29 (by decide) ?_
      refine j_lle (lv' := [some (vr (some (g 0))), some (vi 1), some (vi (nI b)), some (vi (nI (i + 1)))]) (by simp [lle, nI_1]) ?_
      exact ih (i + 1) (by omega) (by omega)

set_option maxRecDepth 20000 in
theorem c_emptyLine1 {h : Hp} {g : Nat → Nat} {b : Nat} (hm : MW h g) (hb : b < 10) : Con mX12_emptyLine 2 0 0 [vr (some (g 0)), vi 1, vi (nI b)] h (fun v u => u = (sI h (g 5) (zS 10 (hI h (g 5)) (12800 + b) 32)) ∧ v = none) := by
  refine con_of rfl (Nat.le_of_ble_eq_true rfl) (by decide) ?_
  show J mX12_emptyLine 2 0 0 _ 0 [some (vr (some (g 0))), some (vi 1), some (vi (nI b)), none] [] h
  refine j_iconst (v := 0) dX12_emptyLine_0 (by decide) ?_
  refine j_istore_n dX12_emptyLine_1 (by decide) ?_
  dsimp only [st1, st2, unL, List.set]
  refine j_lle (lv' := [some (vr (some (g 0))), some (vi 1), some (vi (nI b)), some (vi (nI 0))]) (by simp [lle]; rfl) ?_
  have z : (sI h (g 5) (zS 10 (hI h (g 5)) (12800 + b) 0)) = h := by rw [zS_0, sI_self]
  rw [← z]
  refine l_emptyLine1 (h := h) hm hb ?_ 33 0 (by omega) (by omega)
  rw [z]
  exact ⟨rfl, rfl⟩

