/-! ===== the model: a step in general; values of a sheet without formulas ===== -/
def stA (h : Hp) (g : Nat → Nat) (a b : Nat) : Hp := pI (cps (pI (pI h (g 0) 16 (nI (b + 1))) (g 0) 17 0) g 40 (41 + (a + b) % 40)) (g 0) 65 0
set_option maxRecDepth 20000 in
theorem c_stepA {h : Hp} {g : Nat → Nat} {a b : Nat} (hm : MW h g) (ha : hI h (g 0) 15 = nI a) (hb : hI h (g 0) 16 = nI b) (ha4 : a < 40) (hb4 : b < 40) : Con mX12_step 3 0 0 [vr (some (g 0))] h (fun v u => v = some (vi (nI (41 + (a + b) % 40))) ∧ u = stA h g a b) := by
  refine con_of rfl (Nat.le_of_ble_eq_true rfl) (by decide) ?_
  show J mX12_step 3 0 0 _ 0 [some (vr (some (g 0))), none] [] h
  refine j_aload_n dX12_step_0 rfl ?_
  refine j_getI dX12_step_1 fl_X12_227 rfl hm.1 ?_
  rw [hb]
  refine j_bipush (v := 40) dX12_step_4 (by decide) ?_
  refine j_icmp_ne 25 dX12_step_6 (by decide) (fun c_6 => ?_) (fun c_6 => ?_)
  · refine j_aload_n dX12_step_25 rfl ?_
    refine j_dup dX12_step_26 rfl ?_
    refine j_getI dX12_step_27 fl_X12_227 rfl hm.1 ?_
    rw [hb]
    refine j_iconst (v := 1) dX12_step_30 (by decide) ?_
    refine j_iadd dX12_step_31 ?_
    rw [nI_1]
    refine j_putI dX12_step_32 fl_X12_227 rfl rfl rfl hm.1 ?_
    refine j_aload_n dX12_step_35 rfl ?_
    refine j_iconst (v := 0) dX12_step_36 (by decide) ?_
    refine j_putI dX12_step_37 fl_X12_230 rfl rfl rfl hm.1 ?_
    refine j_aload_n dX12_step_40 rfl ?_
    refine j_aload_n dX12_step_41 rfl ?_
    refine j_getI dX12_step_42 fl_X12_227 rfl hm.1 ?_
    rw [show hI (pI (pI h (g 0) 16 (nI (b + 1))) (g 0) 17 0) (g 0) 16 = nI (b + 1) by simp [hI_pI]]
    refine j_iconst (v := 1) dX12_step_45 (by decide) ?_
    refine j_isub dX12_step_46 ?_
    rw [nI_pred]
    refine j_callV1 dX12_step_47 vl_X12_233 (c_stepAt (h := pI (pI h (g 0) 16 (nI (b + 1))) (g 0) 17 0) a b (by simp [hI_pI]; exact ha) ha4 hb4 hm) hm.1 rfl (by decide) (by omega) (by omega) (Nat.le_of_ble_eq_true rfl) (fun v_47 u_47 p_47 => ?_)
    obtain ⟨rfl, rfl⟩ := p_47
    dsimp only [rs]
    refine j_istore_n dX12_step_50 (by decide) ?_
    dsimp only [st1, st2, unL, List.set]
    refine j_aload_n dX12_step_51 rfl ?_
    refine j_bipush (v := 40) dX12_step_52 (by decide) ?_
    refine j_iload_n dX12_step_54 rfl ?_
    refine j_callV2 dX12_step_55 vl_X12_198 (c_copySheet (s := 40) (t := 41 + (a + b) % 40) hm (by decide) (by omega)) hm.1 rfl (by decide) (by omega) (by omega) (Nat.le_of_ble_eq_true rfl) (fun v_55 u_55 p_55 => ?_)
    obtain ⟨rfl, rfl⟩ := p_55
    rw [if_neg (show ¬ 41 + (a + b) % 40 = 40 by omega)]
    dsimp only [rs]
    refine j_aload_n dX12_step_58 rfl ?_
    refine j_iconst (v := 0) dX12_step_59 (by decide) ?_
    refine j_putI dX12_step_60 fl_X12_205 rfl rfl rfl hm.1 ?_
    refine j_iload_n dX12_step_63 rfl ?_
    exact j_ireturn dX12_step_64 rfl rfl (⟨rfl, rfl⟩)
  · exact absurd (Classical.not_not.mp c_6) (by rw [li_40, nI_eq (by omega) (by omega)]; omega)

theorem stA_f {h : Hp} {g : Nat → Nat} {a b k : Nat} (hm : MW h g) (h1 : k ≠ 16) (h2 : k ≠ 17) (h3 : k ≠ 65) : hI (stA h g a b) (g 0) k = hI h (g 0) k := by
  simp [stA, hI_pI, hI_sI, cps, cs5, cs4, cs3, h1, h2, h3, mNe hm (i := 0) (j := 1) rfl rfl rfl, mNe hm (i := 0) (j := 2) rfl rfl rfl, mNe hm (i := 0) (j := 3) rfl rfl rfl, mNe hm (i := 0) (j := 4) rfl rfl rfl, mNe hm (i := 0) (j := 5) rfl rfl rfl]
theorem stA_o {h : Hp} {g : Nat → Nat} {a b j : Nat} (hm : MW h g) (hj : (j == 0 || mkl.getD j 0 != 0) = true) (h6 : 6 ≤ j) : hI (stA h g a b) (g j) = hI h (g j) := by
  have e : ∀ i, i < 6 → (i == 0 || mkl.getD i 0 != 0) = true → g j ≠ g i := fun i hi hv => mNe hm hj hv (by simp; omega)
  funext k
  simp [stA, hI_pI, hI_sI, cps, cs5, cs4, cs3, e 0 (by decide) rfl, e 1 (by decide) rfl, e 2 (by decide) rfl, e 3 (by decide) rfl, e 4 (by decide) rfl, e 5 (by decide) rfl]
theorem stA_5 {h : Hp} {g : Nat → Nat} {a b : Nat} (hm : MW h g) (z5 : hI h (g 5) = fun _ => 0) : hI (stA h g a b) (g 5) = fun _ => 0 := by
  rw [stA, hI_pIn (mNe hm (i := 5) (j := 0) rfl rfl rfl), cps, hI_sI1, hI_pIn (mNe hm (i := 5) (j := 0) rfl rfl rfl), hI_pIn (mNe hm (i := 5) (j := 0) rfl rfl rfl), z5, cpI_z]
/-- ints of the model that stay, but those of S -/
def vld (j : Nat) : Bool := j == 0 || mkl.getD j 0 != 0
def Km (S : List Nat) (g : Nat → Nat) (h u : Hp) : Prop := MW u g ∧ ∀ k, vld k = true → S.contains k = false → hI u (g k) = hI h (g k)
theorem Km_rf {S : List Nat} {g : Nat → Nat} {h : Hp} (hm : MW h g) : Km S g h h := ⟨hm, fun _ _ _ => rfl⟩
theorem Km_tr {S : List Nat} {g : Nat → Nat} {h u w : Hp} (q : Km S g h u) (r : Km S g u w) : Km S g h w := ⟨r.1, fun k a b => (r.2 k a b).trans (q.2 k a b)⟩
theorem Km_mono {S T : List Nat} {g : Nat → Nat} {h u : Hp} (q : Km S g h u) (hs : ∀ k, T.contains k = false → S.contains k = false) : Km T g h u := ⟨q.1, fun k a b => q.2 k a (hs k b)⟩
theorem Km_pI {S : List Nat} {g : Nat → Nat} {h u : Hp} {j i : Nat} {x : Int32} (q : Km S g h u) (hv : vld j = true) (hs : S.contains j = true) : Km S g h (pI u (g j) i x) := ⟨q.1, fun k a b => by
  rw [hI_pIn (mNe q.1 a hv (by rw [beq_eq_false_iff_ne]; rintro rfl; rw [hs] at b; cases b))]; exact q.2 k a b⟩
theorem Km_sI {S : List Nat} {g : Nat → Nat} {h u : Hp} {j : Nat} {x : Nat → Int32} (q : Km S g h u) (hv : vld j = true) (hs : S.contains j = true) : Km S g h (sI u (g j) x) := ⟨q.1, fun k a b => by
  rw [hI_sI, if_neg (mNe q.1 a hv (by rw [beq_eq_false_iff_ne]; rintro rfl; rw [hs] at b; cases b))]; exact q.2 k a b⟩
theorem Km_pG {S : List Nat} {g : Nat → Nat} {h u : Hp} {a i : Nat} {x : Int64} (q : Km S g h u) : Km S g h (pG u a i x) := q
theorem Km_k {S : List Nat} {g : Nat → Nat} {h u : Hp} (q : Km S g h u) (k : Nat) (a : vld k = true) (b : S.contains k = false) : hI u (g k) = hI h (g k) := q.2 k a b
set_option maxRecDepth 20000 in
theorem c_isFormula12 {h : Hp} (x : Int32)  : Con mX12_isFormula 1 0 0 [vi x] h (fun v u => u = h ∧ v = some (vi (b2 (0 < x ∧ x < 100000)))) := by
  refine con_of rfl (Nat.le_of_ble_eq_true rfl) (by decide) ?_
  show J mX12_isFormula 1 0 0 _ 0 [some (vi x)] [] h
  refine j_iload_n dX12_isFormula_0 rfl ?_
  refine j_if_le 14 dX12_isFormula_1 (by decide) (fun c_1 => ?_) (fun c_1 => ?_)
  · refine j_iconst (v := 0) dX12_isFormula_14 (by decide) ?_
    exact j_ireturn dX12_isFormula_15 rfl rfl (⟨rfl, by simp only [lt_i, le_i, Int32.reduceToInt] at *; first | (rw [b2t (by omega)]; done) | rw [b2f (by omega)]⟩)
  · refine j_iload_n dX12_isFormula_4 rfl ?_
    refine j_ldc dX12_isFormula_5 kl_X12_240 ?_
    refine j_icmp_ge 14 dX12_isFormula_7 (by decide) (fun c_7 => ?_) (fun c_7 => ?_)
    · refine j_iconst (v := 0) dX12_isFormula_14 (by decide) ?_
      exact j_ireturn dX12_isFormula_15 rfl rfl (⟨rfl, by simp only [lt_i, le_i, Int32.reduceToInt] at *; first | (rw [b2t (by omega)]; done) | rw [b2f (by omega)]⟩)
    · refine j_iconst (v := 1) dX12_isFormula_10 (by decide) ?_
      refine j_goto 15 dX12_isFormula_11 (by decide) ?_
      exact j_ireturn dX12_isFormula_15 rfl rfl (⟨rfl, by simp only [lt_i, le_i, Int32.reduceToInt] at *; first | (rw [b2t (by omega)]; done) | rw [b2f (by omega)]⟩)

set_option maxRecDepth 20000 in
theorem c_rank {h : Hp} (x : Int32)  : Con mX12_rank 1 0 0 [vi x] h (fun v u => u = h ∧ v = some (vi (if x = 0 then 5 else x))) := by
  refine con_of rfl (Nat.le_of_ble_eq_true rfl) (by decide) ?_
  show J mX12_rank 1 0 0 _ 0 [some (vi x)] [] h
  refine j_iload_n dX12_rank_0 rfl ?_
  refine j_if_ne 8 dX12_rank_1 (by decide) (fun c_1 => ?_) (fun c_1 => ?_)
  · refine j_iload_n dX12_rank_8 rfl ?_
    exact j_ireturn dX12_rank_9 rfl rfl (⟨rfl, by first | (rw [if_pos (Classical.not_not.mp c_1)]; done) | rw [if_neg c_1]⟩)
  · refine j_iconst (v := 5) dX12_rank_4 (by decide) ?_
    refine j_goto 9 dX12_rank_5 (by decide) ?_
    exact j_ireturn dX12_rank_9 rfl rfl (⟨rfl, by first | (rw [if_pos (Classical.not_not.mp c_1)]; done) | rw [if_neg c_1]⟩)

set_option maxRecDepth 20000 in
theorem c_goesThrough {h : Hp} {g : Nat → Nat} {k : Nat} (hm : MW h g) (hk : k < 320) : Con mX12_goesThrough 1 0 0 [vr (some (g 0)), vi (nI k)] h (fun v u => v = none ∧ ∃ x, u = pG (pI h (g 84) k 1) (g 85) (k / 64) x) := by
  refine con_of rfl (Nat.le_of_ble_eq_true rfl) (by decide) ?_
  show J mX12_goesThrough 1 0 0 _ 0 [some (vr (some (g 0))), some (vi (nI k))] [] h
  refine j_aload_n dX12_goesThrough_0 rfl ?_
  refine j_getR dX12_goesThrough_1 fl_X12_147 rfl hm.1 (mO hm rfl) ?_
  refine j_iload_n dX12_goesThrough_4 rfl ?_
  refine j_iconst (v := 1) dX12_goesThrough_5 (by decide) ?_
  refine j_zast _ dX12_goesThrough_6 (mK hm rfl) (by first | with_reducible rfl | (simp (disch := omega) only [li_1, li_2, li_3, li_4, li_5, li_6, li_7, li_8, li_10, li_20, li_24, li_32, li_40, li_64, li_320, li_39, li_41, li_81, li_121, li_100000, pk_sub, pk_mul, nI_add, inc1, dec1]; with_reducible rfl)) (Nat.lt_of_lt_of_eq (by omega) (mN hm (k := 84) (n := 320) rfl rfl).symm) (Nat.lt_of_le_of_lt (Nat.le_of_eq (mN hm (k := 84) (n := 320) rfl rfl)) (by decide)) (by rfl) ?_
  refine j_aload_n dX12_goesThrough_7 rfl ?_
  refine j_getR dX12_goesThrough_8 fl_X12_150 rfl hm.1 (mO hm rfl) ?_
  refine j_iload_n dX12_goesThrough_11 rfl ?_
  refine j_bipush (v := 64) dX12_goesThrough_12 (by decide) ?_
  refine j_idiv dX12_goesThrough_14 (by decide) ?_
  rw [li_64, pk_div (by omega) (by decide) (by decide)]
  refine j_dup2 dX12_goesThrough_15 rfl rfl ?_
  refine j_lald (k / 64) dX12_goesThrough_16 (mK hm rfl) rfl (Nat.lt_of_lt_of_eq (by omega) (mN hm (k := 85) (n := 5) rfl rfl).symm) (Nat.lt_of_le_of_lt (Nat.le_of_eq (mN hm (k := 85) (n := 5) rfl rfl)) (by decide)) ?_
  refine j_lconst (v := 1) dX12_goesThrough_17 (by decide) ?_
  refine j_iload_n dX12_goesThrough_18 rfl ?_
  refine j_bipush (v := 64) dX12_goesThrough_19 (by decide) ?_
  refine j_irem dX12_goesThrough_21 (by decide) ?_
  refine j_lshl dX12_goesThrough_22 ?_
  refine j_lor dX12_goesThrough_23 ?_
  refine j_last (k / 64) dX12_goesThrough_24 (mK hm rfl) rfl (Nat.lt_of_lt_of_eq (by omega) (mN hm (k := 85) (n := 5) rfl rfl).symm) (Nat.lt_of_le_of_lt (Nat.le_of_eq (mN hm (k := 85) (n := 5) rfl rfl)) (by decide)) ?_
  exact j_return dX12_goesThrough_25 rfl (⟨rfl, _, rfl⟩)

theorem fz_step (f : Nat → Int32) (T i : Nat) : upd (fun j => if T ≤ j ∧ j < T + i then 0 else f j) (T + i) 0 = (fun j => if T ≤ j ∧ j < T + (i + 1) then 0 else f j) := by
  funext j
  by_cases hj : j = T + i
  · subst hj; simp [upd]
  · simp only [upd, if_neg hj]
    by_cases q : T ≤ j ∧ j < T + i
    · rw [if_pos q, if_pos (by omega)]
    · rw [if_neg q, if_neg (by omega)]
set_option maxRecDepth 20000 in
theorem l_store0 {h : Hp} {g : Nat → Nat} {c : Nat} {post : Option Sv ⊕ String → Hp → Prop} (hm : MW h g) (hc : c < 13120) (z69 : hI h (g 69) = fun _ => 0) (fin : post (.inl none) (sI h (g 63) (fun j => if 24 * c ≤ j ∧ j < 24 * c + 24 then 0 else hI h (g 63) j))) : ∀ (n : Nat) (i : Nat), 24 - i < n → i ≤ 24 → J mX12_store 1 0 0 post 52 [some (vr (some (g 0))), some (vi 0), some (vi (nI c)), some (vi (nI i))] [] (sI h (g 63) (fun j => if 24 * c ≤ j ∧ j < 24 * c + i then 0 else hI h (g 63) j)) := by
  intro n
  induction n with
  | zero => intro i hlt; omega
  | succ n ih =>
    intro i hlt hinv
    refine j_iload_n dX12_store_52 rfl ?_
    refine j_bipush (v := 24) dX12_store_53 (by decide) ?_
    refine j_icmp_ge 86 dX12_store_55 (by decide) (fun c_55 => ?_) (fun c_55 => ?_)
    · have he : i = 24 := by rw [li_24, nI_leI (by omega) (by omega)] at c_55; omega
      subst he
      exact j_return dX12_store_86 rfl fin
    · have hlt2 : i < 24 := by rw [li_24, nI_leI (by omega) (by omega)] at c_55; omega
      refine j_aload_n dX12_store_58 rfl ?_
      refine j_getR dX12_store_59 fl_X12_119 rfl hm.1 (mO hm rfl) ?_
      refine j_bipush (v := 24) dX12_store_62 (by decide) ?_
      refine j_iload_n dX12_store_64 rfl ?_
      refine j_imul dX12_store_65 ?_
      refine j_iload_n dX12_store_66 rfl ?_
      refine j_iadd dX12_store_67 ?_
      refine j_aload_n dX12_store_68 rfl ?_
      refine j_getR dX12_store_69 fl_X12_135 rfl hm.1 (mO hm rfl) ?_
      refine j_bipush (v := 24) dX12_store_72 (by decide) ?_
      refine j_iload_n dX12_store_74 rfl ?_
      refine j_imul dX12_store_75 ?_
      refine j_iload_n dX12_store_76 rfl ?_
      refine j_iadd dX12_store_77 ?_
      refine j_bald i dX12_store_78 (mK hm rfl) (by rw [li_24, li_0, pk_mul, nI_add]; congr 1; omega) (Nat.lt_of_lt_of_eq (by omega) (mN hm (k := 69) (n := 4800) rfl rfl).symm) (Nat.lt_of_le_of_lt (Nat.le_of_eq (mN hm (k := 69) (n := 4800) rfl rfl)) (by decide)) ?_
      rw [hI_sI, if_neg (mNe hm (i := 69) (j := 63) rfl rfl rfl), z69]
      refine j_bast (24 * c + i) dX12_store_79 (mK hm rfl) (by rw [li_24, pk_mul, nI_add]) (Nat.lt_of_lt_of_eq (by omega) (mN hm (k := 63) (n := 314880) rfl rfl).symm) (Nat.lt_of_le_of_lt (Nat.le_of_eq (mN hm (k := 63) (n := 314880) rfl rfl)) (by decide)) (by rfl) ?_
      rw [pI_sI, fz_step]
      refine j_iinc dX12_store_80 rfl ?_
      dsimp only [st1, st2, unL, List.set]
      refine j_goto 52 dX12_store_83 (by decide) ?_
      refine j_lle (lv' := [some (vr (some (g 0))), some (vi 0), some (vi (nI c)), some (vi (nI (i + 1)))]) (by simp [lle, nI_1]) ?_
      exact ih (i + 1) (by omega) (by omega)

set_option maxRecDepth 20000 in
theorem c_store0 {h : Hp} {g : Nat → Nat} {c : Nat} (hm : MW h g) (hc : c < 13120) (z66 : hI h (g 66) 0 = 0) (z69 : hI h (g 69) = fun _ => 0) : Con mX12_store 1 0 0 [vr (some (g 0)), vi 0, vi (nI c)] h (fun v u => v = none ∧ u = sI (pI (pG (pI h (g 60) c 0) (g 61) c (hG h (g 67) 0)) (g 62) c 0) (g 63) (fun j => if 24 * c ≤ j ∧ j < 24 * c + 24 then 0 else hI h (g 63) j)) := by
  refine con_of rfl (Nat.le_of_ble_eq_true rfl) (by decide) ?_
  show J mX12_store 1 0 0 _ 0 [some (vr (some (g 0))), some (vi 0), some (vi (nI c)), none] [] h
  refine j_aload_n dX12_store_0 rfl ?_
  refine j_getR dX12_store_1 fl_X12_109 rfl hm.1 (mO hm rfl) ?_
  refine j_iload_n dX12_store_4 rfl ?_
  refine j_aload_n dX12_store_5 rfl ?_
  refine j_getR dX12_store_6 fl_X12_126 rfl hm.1 (mO hm rfl) ?_
  refine j_iload_n dX12_store_9 rfl ?_
  refine j_iald 0 dX12_store_10 (mK hm rfl) rfl (Nat.lt_of_lt_of_eq (by omega) (mN hm (k := 66) (n := 200) rfl rfl).symm) (Nat.lt_of_le_of_lt (Nat.le_of_eq (mN hm (k := 66) (n := 200) rfl rfl)) (by decide)) ?_
  rw [z66]
  refine j_iast _ dX12_store_11 (mK hm rfl) (by first | with_reducible rfl | (simp (disch := omega) only [li_1, li_2, li_3, li_4, li_5, li_6, li_7, li_8, li_10, li_20, li_24, li_32, li_40, li_64, li_320, li_39, li_41, li_81, li_121, li_100000, pk_sub, pk_mul, nI_add, inc1, dec1]; with_reducible rfl)) (Nat.lt_of_lt_of_eq (by omega) (mN hm (k := 60) (n := 13120) rfl rfl).symm) (Nat.lt_of_le_of_lt (Nat.le_of_eq (mN hm (k := 60) (n := 13120) rfl rfl)) (by decide)) ?_
  refine j_aload_n dX12_store_12 rfl ?_
  refine j_getR dX12_store_13 fl_X12_112 rfl hm.1 (mO hm rfl) ?_
  refine j_iload_n dX12_store_16 rfl ?_
  refine j_aload_n dX12_store_17 rfl ?_
  refine j_getR dX12_store_18 fl_X12_129 rfl hm.1 (mO hm rfl) ?_
  refine j_iload_n dX12_store_21 rfl ?_
  refine j_lald 0 dX12_store_22 (mK hm rfl) rfl (Nat.lt_of_lt_of_eq (by omega) (mN hm (k := 67) (n := 200) rfl rfl).symm) (Nat.lt_of_le_of_lt (Nat.le_of_eq (mN hm (k := 67) (n := 200) rfl rfl)) (by decide)) ?_
  refine j_last _ dX12_store_23 (mK hm rfl) (by first | with_reducible rfl | (simp (disch := omega) only [li_1, li_2, li_3, li_4, li_5, li_6, li_7, li_8, li_10, li_20, li_24, li_32, li_40, li_64, li_320, li_39, li_41, li_81, li_121, li_100000, pk_sub, pk_mul, nI_add, inc1, dec1]; with_reducible rfl)) (Nat.lt_of_lt_of_eq (by omega) (mN hm (k := 61) (n := 13120) rfl rfl).symm) (Nat.lt_of_le_of_lt (Nat.le_of_eq (mN hm (k := 61) (n := 13120) rfl rfl)) (by decide)) ?_
  refine j_aload_n dX12_store_24 rfl ?_
  refine j_getR dX12_store_25 fl_X12_115 rfl hm.1 (mO hm rfl) ?_
  refine j_iload_n dX12_store_28 rfl ?_
  refine j_aload_n dX12_store_29 rfl ?_
  refine j_getR dX12_store_30 fl_X12_126 rfl hm.1 (mO hm rfl) ?_
  refine j_iload_n dX12_store_33 rfl ?_
  refine j_iald 0 dX12_store_34 (mK hm rfl) rfl (Nat.lt_of_lt_of_eq (by omega) (mN hm (k := 66) (n := 200) rfl rfl).symm) (Nat.lt_of_le_of_lt (Nat.le_of_eq (mN hm (k := 66) (n := 200) rfl rfl)) (by decide)) ?_
  rw [show hI (pG (pI h (g 60) c 0) (g 61) c (hG (pI h (g 60) c 0) (g 67) 0)) (g 66) 0 = 0 from (congrFun (hI_pIn (h := h) (k := c) (x := 0) (mNe hm (i := 66) (j := 60) rfl rfl rfl)) 0).trans z66]
  refine j_iconst (v := 2) dX12_store_35 (by decide) ?_
  refine j_icmp_ne 48 dX12_store_36 (by decide) (fun c_36 => ?_) (fun c_36 => ?_)
  · refine j_iconst (v := 0) dX12_store_48 (by decide) ?_
    refine j_iast _ dX12_store_49 (mK hm rfl) (by first | with_reducible rfl | (simp (disch := omega) only [li_1, li_2, li_3, li_4, li_5, li_6, li_7, li_8, li_10, li_20, li_24, li_32, li_40, li_64, li_320, li_39, li_41, li_81, li_121, li_100000, pk_sub, pk_mul, nI_add, inc1, dec1]; with_reducible rfl)) (Nat.lt_of_lt_of_eq (by omega) (mN hm (k := 62) (n := 13120) rfl rfl).symm) (Nat.lt_of_le_of_lt (Nat.le_of_eq (mN hm (k := 62) (n := 13120) rfl rfl)) (by decide)) ?_
    refine j_iconst (v := 0) dX12_store_50 (by decide) ?_
    refine j_istore_n dX12_store_51 (by decide) ?_
    dsimp only [st1, st2, unL, List.set]
    refine j_lle (lv' := [some (vr (some (g 0))), some (vi 0), some (vi (nI c)), some (vi (nI 0))]) (by simp [lle]; rfl) ?_
    change J _ _ _ _ _ _ _ _ (pI (pG (pI h (g 60) c 0) (g 61) c (hG h (g 67) 0)) (g 62) c 0)
    have e63 : hI (pI (pG (pI h (g 60) c 0) (g 61) c (hG h (g 67) 0)) (g 62) c 0) (g 63) = hI h (g 63) := by
      rw [hI_pIn (mNe hm (i := 63) (j := 62) rfl rfl rfl)]
      show hI (pI h (g 60) c 0) (g 63) = _
      rw [hI_pIn (mNe hm (i := 63) (j := 60) rfl rfl rfl)]
    have e69 : hI (pI (pG (pI h (g 60) c 0) (g 61) c (hG h (g 67) 0)) (g 62) c 0) (g 69) = fun _ => 0 := by
      rw [hI_pIn (mNe hm (i := 69) (j := 62) rfl rfl rfl)]
      show hI (pI h (g 60) c 0) (g 69) = _
      rw [hI_pIn (mNe hm (i := 69) (j := 60) rfl rfl rfl)]
      exact z69
    have z : sI (pI (pG (pI h (g 60) c 0) (g 61) c (hG h (g 67) 0)) (g 62) c 0) (g 63) (fun j => if 24 * c ≤ j ∧ j < 24 * c + 0 then 0 else hI (pI (pG (pI h (g 60) c 0) (g 61) c (hG h (g 67) 0)) (g 62) c 0) (g 63) j) = pI (pG (pI h (g 60) c 0) (g 61) c (hG h (g 67) 0)) (g 62) c 0 := by
      rw [show (fun j => if 24 * c ≤ j ∧ j < 24 * c + 0 then 0 else hI (pI (pG (pI h (g 60) c 0) (g 61) c (hG h (g 67) 0)) (g 62) c 0) (g 63) j) = hI (pI (pG (pI h (g 60) c 0) (g 61) c (hG h (g 67) 0)) (g 62) c 0) (g 63) by funext j; rw [if_neg (by omega)], sI_self]
    refine z ▸ l_store0 (h := pI (pG (pI h (g 60) c 0) (g 61) c (hG h (g 67) 0)) (g 62) c 0) hm hc e69 ?_ 25 0 (by omega) (by omega)
    exact ⟨rfl, by rw [e63, sI_sI]⟩
  · exact absurd (by decide) c_36

set_option maxRecDepth 20000 in
theorem e_plainValue0 {h : Hp} {g : Nat → Nat} {c : Nat} (hm : MW h g) (hc : c < 13120) (z60 : hI h (g 60) = fun _ => 0) (z69 : hI h (g 69) = fun _ => 0) : Con mX12_plainValue 2 0 0 [vr (some (g 0)), vi 0, vi (nI c)] h (fun v u => v = none ∧ Km [60, 62, 63, 66] g h u ∧ hI u (g 60) = fun _ => 0) := by
  refine con_of rfl (Nat.le_of_ble_eq_true rfl) (by decide) ?_
  show J mX12_plainValue 2 0 0 _ 0 [some (vr (some (g 0))), some (vi 0), some (vi (nI c)), none] [] h
  refine j_iload_n dX12_plainValue_0 rfl ?_
  refine j_ldc dX12_plainValue_1 kl_X12_240 ?_
  refine j_isub dX12_plainValue_3 ?_
  refine j_istore_n dX12_plainValue_4 (by decide) ?_
  dsimp only [st1, st2, unL, List.set]
  refine j_iload_n dX12_plainValue_5 rfl ?_
  refine j_if_ne 26 dX12_plainValue_6 (by decide) (fun c_6 => ?_) (fun c_6 => ?_)
  · exact absurd rfl c_6
  · refine j_aload_n dX12_plainValue_9 rfl ?_
    refine j_getR dX12_plainValue_10 fl_X12_126 rfl hm.1 (mO hm rfl) ?_
    refine j_iconst (v := 0) dX12_plainValue_13 (by decide) ?_
    refine j_iconst (v := 0) dX12_plainValue_14 (by decide) ?_
    refine j_iast 0 dX12_plainValue_15 (mK hm rfl) rfl (Nat.lt_of_lt_of_eq (by omega) (mN hm (k := 66) (n := 200) rfl rfl).symm) (Nat.lt_of_le_of_lt (Nat.le_of_eq (mN hm (k := 66) (n := 200) rfl rfl)) (by decide)) ?_
    refine j_aload_n dX12_plainValue_16 rfl ?_
    refine j_getR dX12_plainValue_17 fl_X12_129 rfl hm.1 (mO hm rfl) ?_
    refine j_iconst (v := 0) dX12_plainValue_20 (by decide) ?_
    refine j_lconst (v := 0) dX12_plainValue_21 (by decide) ?_
    refine j_last 0 dX12_plainValue_22 (mK hm rfl) rfl (Nat.lt_of_lt_of_eq (by omega) (mN hm (k := 67) (n := 200) rfl rfl).symm) (Nat.lt_of_le_of_lt (Nat.le_of_eq (mN hm (k := 67) (n := 200) rfl rfl)) (by decide)) ?_
    refine j_goto 84 dX12_plainValue_23 (by decide) ?_
    refine j_aload_n dX12_plainValue_84 rfl ?_
    refine j_iconst (v := 0) dX12_plainValue_85 (by decide) ?_
    refine j_iload_n dX12_plainValue_86 rfl ?_
    refine j_callV2 dX12_plainValue_87 vl_X12_705 (c_store0 (h := pG (pI h (g 66) 0 0) (g 67) 0 0) hm hc (by show hI (pI h (g 66) 0 0) (g 66) 0 = 0; rw [hI_pI, if_pos ⟨rfl, rfl⟩]) (by show hI (pI h (g 66) 0 0) (g 69) = _; rw [hI_pIn (mNe hm (i := 69) (j := 66) rfl rfl rfl)]; exact z69)) hm.1 rfl (by decide) (by omega) (by omega) (Nat.le_of_ble_eq_true rfl) (fun v_87 u_87 p_87 => ?_)
    obtain ⟨rfl, rfl⟩ := p_87
    dsimp only [rs]
    exact j_return dX12_plainValue_90 rfl (⟨rfl, Km_sI (Km_pI (Km_pG (Km_pI (Km_pG (Km_pI (Km_rf hm) rfl rfl)) rfl rfl)) rfl rfl) rfl rfl, by
        rw [hI_sI, if_neg (mNe hm (i := 60) (j := 63) rfl rfl rfl), hI_pIn (mNe hm (i := 60) (j := 62) rfl rfl rfl)]
        show hI (pI (pG (pI h (g 66) 0 0) (g 67) 0 0) (g 60) c 0) (g 60) = _
        rw [pI_same (show hI (pG (pI h (g 66) 0 0) (g 67) 0 0) (g 60) c = 0 by show hI (pI h (g 66) 0 0) (g 60) c = 0; rw [hI_pIn (mNe hm (i := 60) (j := 66) rfl rfl rfl), z60])]
        show hI (pI h (g 66) 0 0) (g 60) = _
        rw [hI_pIn (mNe hm (i := 60) (j := 66) rfl rfl rfl), z60]⟩)

set_option maxRecDepth 20000 in
theorem e_bit {h : Hp} {g : Nat → Nat} {a b : Nat} (hm : MW h g) (ha : a < 320) (hb : b < 320) : Con mX12_bit 1 0 0 [vr (some (g 83)), vi (nI a), vi (nI b)] h (fun v u => u = h ∧ ∃ x, v = some (vi x)) := by
  refine con_of rfl (Nat.le_of_ble_eq_true rfl) (by decide) ?_
  show J mX12_bit 1 0 0 _ 0 [some (vr (some (g 83))), some (vi (nI a)), some (vi (nI b))] [] h
  refine j_aload_n dX12_bit_0 rfl ?_
  refine j_iconst (v := 5) dX12_bit_1 (by decide) ?_
  refine j_iload_n dX12_bit_2 rfl ?_
  refine j_imul dX12_bit_3 ?_
  refine j_iload_n dX12_bit_4 rfl ?_
  refine j_bipush (v := 64) dX12_bit_5 (by decide) ?_
  refine j_idiv dX12_bit_7 (by decide) ?_
  rw [li_64, pk_div (by omega) (by decide) (by decide)]
  refine j_iadd dX12_bit_8 ?_
  refine j_lald (5 * a + b / 64) dX12_bit_9 (mK hm rfl) (by rw [li_5, pk_mul, nI_add]) (Nat.lt_of_lt_of_eq (by omega) (mN hm (k := 83) (n := 1600) rfl rfl).symm) (Nat.lt_of_le_of_lt (Nat.le_of_eq (mN hm (k := 83) (n := 1600) rfl rfl)) (by decide)) ?_
  refine j_iload_n dX12_bit_10 rfl ?_
  refine j_bipush (v := 64) dX12_bit_11 (by decide) ?_
  refine j_irem dX12_bit_13 (by decide) ?_
  refine j_lshr dX12_bit_14 ?_
  refine j_lconst (v := 1) dX12_bit_15 (by decide) ?_
  refine j_land dX12_bit_16 ?_
  refine j_lconst (v := 1) dX12_bit_17 (by decide) ?_
  refine j_lcmp dX12_bit_18 ?_
  refine j_if_ne 26 dX12_bit_19 (by decide) (fun c_19 => ?_) (fun c_19 => ?_)
  · refine j_iconst (v := 0) dX12_bit_26 (by decide) ?_
    exact j_ireturn dX12_bit_27 rfl rfl (⟨rfl, _, rfl⟩)
  · refine j_iconst (v := 1) dX12_bit_22 (by decide) ?_
    refine j_goto 27 dX12_bit_23 (by decide) ?_
    exact j_ireturn dX12_bit_27 rfl rfl (⟨rfl, _, rfl⟩)

set_option maxRecDepth 20000 in
theorem l_close3 {h : Hp} {g : Nat → Nat} {i j : Nat} (hi : i < 320) (hj : j < 320) (fin : ∀ u, Km [] g h u → J mX12_close 2 0 0 (nx (fun v u => v = none ∧ Km [] g h u)) 93 [some (vr (some (g 0))), some (vi (nI i)), some (vi (nI j)), none] [] u) : ∀ (n : Nat) (w : Nat) (u : Hp), 5 - w < n → w ≤ 5 ∧ Km [] g h u → J mX12_close 2 0 0 (nx (fun v u => v = none ∧ Km [] g h u)) 59 [some (vr (some (g 0))), some (vi (nI i)), some (vi (nI j)), some (vi (nI w))] [] u := by
  intro n
  induction n with
  | zero => intro w u hlt; omega
  | succ n ih =>
    intro w u hlt hinv
    have hm := hinv.2.1
    refine j_iload_n dX12_close_59 rfl ?_
    refine j_iconst (v := 5) dX12_close_60 (by decide) ?_
    refine j_icmp_ge 93 dX12_close_61 (by decide) (fun c_61 => ?_) (fun c_61 => ?_)
    · exact j_lle (by simp [lle]) (fin _ hinv.2)
    · have hlt2 : w < 5 := by rw [li_5, nI_leI (by omega) (by omega)] at c_61; omega
      refine j_aload_n dX12_close_64 rfl ?_
      refine j_getR dX12_close_65 fl_X12_144 rfl hm.1 (mO hm rfl) ?_
      refine j_iconst (v := 5) dX12_close_68 (by decide) ?_
      refine j_iload_n dX12_close_69 rfl ?_
      refine j_imul dX12_close_70 ?_
      refine j_iload_n dX12_close_71 rfl ?_
      refine j_iadd dX12_close_72 ?_
      refine j_dup2 dX12_close_73 rfl rfl ?_
      refine j_lald (5 * j + w) dX12_close_74 (mK hm rfl) (by rw [li_5, pk_mul, nI_add]) (Nat.lt_of_lt_of_eq (by omega) (mN hm (k := 83) (n := 1600) rfl rfl).symm) (Nat.lt_of_le_of_lt (Nat.le_of_eq (mN hm (k := 83) (n := 1600) rfl rfl)) (by decide)) ?_
      refine j_aload_n dX12_close_75 rfl ?_
      refine j_getR dX12_close_76 fl_X12_144 rfl hm.1 (mO hm rfl) ?_
      refine j_iconst (v := 5) dX12_close_79 (by decide) ?_
      refine j_iload_n dX12_close_80 rfl ?_
      refine j_imul dX12_close_81 ?_
      refine j_iload_n dX12_close_82 rfl ?_
      refine j_iadd dX12_close_83 ?_
      refine j_lald (5 * i + w) dX12_close_84 (mK hm rfl) (by rw [li_5, pk_mul, nI_add]) (Nat.lt_of_lt_of_eq (by omega) (mN hm (k := 83) (n := 1600) rfl rfl).symm) (Nat.lt_of_le_of_lt (Nat.le_of_eq (mN hm (k := 83) (n := 1600) rfl rfl)) (by decide)) ?_
      refine j_lor dX12_close_85 ?_
      refine j_last (5 * j + w) dX12_close_86 (mK hm rfl) (by rw [li_5, pk_mul, nI_add]) (Nat.lt_of_lt_of_eq (by omega) (mN hm (k := 83) (n := 1600) rfl rfl).symm) (Nat.lt_of_le_of_lt (Nat.le_of_eq (mN hm (k := 83) (n := 1600) rfl rfl)) (by decide)) ?_
      refine j_iinc dX12_close_87 rfl ?_
      dsimp only [st1, st2, unL, List.set]
      refine j_goto 59 dX12_close_90 (by decide) ?_
      refine j_lle (lv' := [some (vr (some (g 0))), some (vi (nI i)), some (vi (nI j)), some (vi (nI (w + 1)))]) (by simp [lle, nI_1]) ?_
      exact ih (w + 1) _ (by omega) ⟨by omega, Km_pG hinv.2⟩

set_option maxRecDepth 20000 in
theorem l_close2 {h : Hp} {g : Nat → Nat} {i : Nat} (hi : i < 320) (fin : ∀ u, Km [] g h u → J mX12_close 2 0 0 (nx (fun v u => v = none ∧ Km [] g h u)) 99 [some (vr (some (g 0))), some (vi (nI i)), none, none] [] u) : ∀ (n : Nat) (j : Nat) (u : Hp), 320 - j < n → j ≤ 320 ∧ Km [] g h u → J mX12_close 2 0 0 (nx (fun v u => v = none ∧ Km [] g h u)) 38 [some (vr (some (g 0))), some (vi (nI i)), some (vi (nI j)), none] [] u := by
  intro n
  induction n with
  | zero => intro j u hlt; omega
  | succ n ih =>
    intro j u hlt hinv
    have hm := hinv.2.1
    refine j_iload_n dX12_close_38 rfl ?_
    refine j_sipush (v := 320) dX12_close_39 (by decide) ?_
    refine j_icmp_ge 99 dX12_close_42 (by decide) (fun c_42 => ?_) (fun c_42 => ?_)
    · exact j_lle (by simp [lle]) (fin _ hinv.2)
    · have hlt2 : j < 320 := by rw [li_320, nI_leI (by omega) (by omega)] at c_42; omega
      refine j_aload_n dX12_close_45 rfl ?_
      refine j_getR dX12_close_46 fl_X12_144 rfl hm.1 (mO hm rfl) ?_
      refine j_iload_n dX12_close_49 rfl ?_
      refine j_iload_n dX12_close_50 rfl ?_
      refine j_callS3 dX12_close_51 sl_X12_701 (e_bit hm hlt2 hi) rfl (by decide) (by omega) (by omega) (Nat.le_of_ble_eq_true rfl) (fun v_51 u_51 p_51 => ?_)
      obtain ⟨rfl, x_, rfl⟩ := p_51
      dsimp only [rs]
      refine j_if_eq 93 dX12_close_54 (by decide) (fun c_54 => ?_) (fun c_54 => ?_)
      · refine j_iinc dX12_close_93 rfl ?_
        dsimp only [st1, st2, unL, List.set]
        refine j_goto 38 dX12_close_96 (by decide) ?_
        refine j_lle (lv' := [some (vr (some (g 0))), some (vi (nI i)), some (vi (nI (j + 1))), none]) (by simp [lle, nI_1]) ?_
        exact ih (j + 1) _ (by omega) ⟨by omega, hinv.2⟩
      · refine j_iconst (v := 0) dX12_close_57 (by decide) ?_
        refine j_istore_n dX12_close_58 (by decide) ?_
        dsimp only [st1, st2, unL, List.set]
        refine l_close3 hi hlt2 (fun u2 hu2 => ?_) 6 0 _ (by omega) ⟨by omega, hinv.2⟩
        have hm := hu2.1
        refine j_iinc dX12_close_93 rfl ?_
        dsimp only [st1, st2, unL, List.set]
        refine j_goto 38 dX12_close_96 (by decide) ?_
        refine j_lle (lv' := [some (vr (some (g 0))), some (vi (nI i)), some (vi (nI (j + 1))), none]) (by simp [lle, nI_1]) ?_
        exact ih (j + 1) _ (by omega) ⟨by omega, hu2⟩

set_option maxRecDepth 20000 in
theorem l_close1 {h : Hp} {g : Nat → Nat}  : ∀ (n : Nat) (i : Nat) (u : Hp), 320 - i < n → i ≤ 320 ∧ Km [] g h u → J mX12_close 2 0 0 (nx (fun v u => v = none ∧ Km [] g h u)) 29 [some (vr (some (g 0))), some (vi (nI i)), none, none] [] u := by
  intro n
  induction n with
  | zero => intro i u hlt; omega
  | succ n ih =>
    intro i u hlt hinv
    have hm := hinv.2.1
    refine j_iload_n dX12_close_29 rfl ?_
    refine j_sipush (v := 320) dX12_close_30 (by decide) ?_
    refine j_icmp_ge 105 dX12_close_33 (by decide) (fun c_33 => ?_) (fun c_33 => ?_)
    · exact j_return dX12_close_105 rfl (⟨rfl, hinv.2⟩)
    · have hlt2 : i < 320 := by rw [li_320, nI_leI (by omega) (by omega)] at c_33; omega
      refine j_iconst (v := 0) dX12_close_36 (by decide) ?_
      refine j_istore_n dX12_close_37 (by decide) ?_
      dsimp only [st1, st2, unL, List.set]
      refine j_lle (lv' := [some (vr (some (g 0))), some (vi (nI i)), some (vi (nI 0)), none]) (by simp [lle]; rfl) ?_
      refine l_close2 hlt2 (fun u2 hu2 => ?_) 321 0 _ (by omega) ⟨by omega, hinv.2⟩
      have hm := hu2.1
      refine j_iinc dX12_close_99 rfl ?_
      dsimp only [st1, st2, unL, List.set]
      refine j_goto 29 dX12_close_102 (by decide) ?_
      refine j_lle (lv' := [some (vr (some (g 0))), some (vi (nI (i + 1))), none, none]) (by simp [lle, nI_1]) ?_
      exact ih (i + 1) _ (by omega) ⟨by omega, hu2⟩

set_option maxRecDepth 20000 in
theorem l_close0 {h : Hp} {g : Nat → Nat} (fin : ∀ u, Km [] g h u → J mX12_close 2 0 0 (nx (fun v u => v = none ∧ Km [] g h u)) 27 [some (vr (some (g 0))), none, none, none] [] u) : ∀ (n : Nat) (i : Nat) (u : Hp), 1600 - i < n → i ≤ 1600 ∧ Km [] g h u → J mX12_close 2 0 0 (nx (fun v u => v = none ∧ Km [] g h u)) 2 [some (vr (some (g 0))), some (vi (nI i)), none, none] [] u := by
  intro n
  induction n with
  | zero => intro i u hlt; omega
  | succ n ih =>
    intro i u hlt hinv
    have hm := hinv.2.1
    refine j_iload_n dX12_close_2 rfl ?_
    refine j_sipush (v := 1600) dX12_close_3 (by decide) ?_
    refine j_icmp_ge 27 dX12_close_6 (by decide) (fun c_6 => ?_) (fun c_6 => ?_)
    · exact j_lle (by simp [lle]) (fin _ hinv.2)
    · have hlt2 : i < 1600 := by rw [li_1600, nI_leI (by omega) (by omega)] at c_6; omega
      refine j_aload_n dX12_close_9 rfl ?_
      refine j_getR dX12_close_10 fl_X12_144 rfl hm.1 (mO hm rfl) ?_
      refine j_iload_n dX12_close_13 rfl ?_
      refine j_aload_n dX12_close_14 rfl ?_
      refine j_getR dX12_close_15 fl_X12_141 rfl hm.1 (mO hm rfl) ?_
      refine j_iload_n dX12_close_18 rfl ?_
      refine j_lald i dX12_close_19 (mK hm rfl) rfl (Nat.lt_of_lt_of_eq (by omega) (mN hm (k := 82) (n := 1600) rfl rfl).symm) (Nat.lt_of_le_of_lt (Nat.le_of_eq (mN hm (k := 82) (n := 1600) rfl rfl)) (by decide)) ?_
      refine j_last i dX12_close_20 (mK hm rfl) rfl (Nat.lt_of_lt_of_eq (by omega) (mN hm (k := 83) (n := 1600) rfl rfl).symm) (Nat.lt_of_le_of_lt (Nat.le_of_eq (mN hm (k := 83) (n := 1600) rfl rfl)) (by decide)) ?_
      refine j_iinc dX12_close_21 rfl ?_
      dsimp only [st1, st2, unL, List.set]
      refine j_goto 2 dX12_close_24 (by decide) ?_
      refine j_lle (lv' := [some (vr (some (g 0))), some (vi (nI (i + 1))), none, none]) (by simp [lle, nI_1]) ?_
      exact ih (i + 1) _ (by omega) ⟨by omega, Km_pG hinv.2⟩

set_option maxRecDepth 20000 in
theorem e_close {h : Hp} {g : Nat → Nat} (hm : MW h g) : Con mX12_close 2 0 0 [vr (some (g 0))] h (fun v u => v = none ∧ Km [] g h u) := by
  refine con_of rfl (Nat.le_of_ble_eq_true rfl) (by decide) ?_
  show J mX12_close 2 0 0 _ 0 [some (vr (some (g 0))), none, none, none] [] h
  refine j_iconst (v := 0) dX12_close_0 (by decide) ?_
  refine j_istore_n dX12_close_1 (by decide) ?_
  dsimp only [st1, st2, unL, List.set]
  refine j_lle (lv' := [some (vr (some (g 0))), some (vi (nI 0)), none, none]) (by simp [lle]; rfl) ?_
  refine l_close0 (fun u2 hu2 => ?_) 1601 0 _ (by omega) ⟨by omega, Km_rf hm⟩
  have hm := hu2.1
  refine j_iconst (v := 0) dX12_close_27 (by decide) ?_
  refine j_istore_n dX12_close_28 (by decide) ?_
  dsimp only [st1, st2, unL, List.set]
  refine j_lle (lv' := [some (vr (some (g 0))), some (vi (nI 0)), none, none]) (by simp [lle]; rfl) ?_
  exact l_close1 321 0 _ (by omega) ⟨by omega, hu2⟩

