/-! ===== Sheet: what makes sheets ===== -/
def atG (h : Hp) (xa nc p q : Nat) : Option Nat := if p = 0 ∨ q = 0 then none else hO h xa ((p - 1) * nc + (q - 1))
theorem c_atG {h : Hp} {a ra ca xa nr nc : Nat} (p q : Nat) (hp : p ≤ nr) (hq : q ≤ nc) (hs : Sh h a ra ca xa nr nc) : Con mX6_at 2 0 0 [vr (some a), vi (nI p), vi (nI q)] h (fun v u => u = h ∧ v = some (vr (atG h xa nc p q))) := by
  obtain ⟨-, -, -, -, -, -, -, -, -, -, l1, l2, l3, l4⟩ := id hs
  by_cases h0 : p = 0 ∨ q = 0
  · rw [atG, if_pos h0]
    exact c_atN _ _ (by simp only [inSh, nI_toInt (n := p) (by omega), nI_toInt (n := q) (by omega)]; omega) hs
  · rw [atG, if_neg h0]
    obtain ⟨i, rfl⟩ : ∃ i, p = i + 1 := ⟨p - 1, by omega⟩
    obtain ⟨j, rfl⟩ : ∃ j, q = j + 1 := ⟨q - 1, by omega⟩
    exact c_at i j (by omega) (by omega) hs
set_option maxRecDepth 20000 in
theorem c_knows {h : Hp} {a ra ca xa nr nc : Nat} (r c : Int32) (hs : Sh h a ra ca xa nr nc) : Con mX6_knows 2 0 0 [vr (some a), vi r, vi c] h (fun v u => u = h ∧ v = some (vi (b2 (pl1 (hI h ra) r (hN h ra) ≠ 0 ∧ pl1 (hI h ca) c (hN h ca) ≠ 0)))) := by
  obtain ⟨k0, k1, k2, k3, k4, k5, k6, k7, k8, k9, l1, l2, l3, l4⟩ := id hs
  have g1 := pl1_le (hI h ra) r (hN h ra)
  have g2 := pl1_le (hI h ca) c (hN h ca)
  refine con_of rfl (Nat.le_of_ble_eq_true rfl) (by decide) ?_
  show J mX6_knows 2 0 0 _ 0 [some (vr (some a)), some (vi r), some (vi c)] [] h
  refine j_aload_n dX6_knows_0 rfl ?_
  refine j_iconst (v := 0) dX6_knows_1 (by decide) ?_
  refine j_iload_n dX6_knows_2 rfl ?_
  refine j_callV2 dX6_knows_3 vl_X6_28 (c_placeOf0 _ hs) (by first | assumption | (simp only [hK_pI, hK_pG, hK_pO]; assumption) | (simp [hK_nw, hK_pI, hK_pG, hK_pO, *]; done)) rfl (by decide) (by omega) (by omega) (Nat.le_of_ble_eq_true rfl) (fun v_3 u_3 p_3 => ?_)
  obtain ⟨e_3, rfl⟩ := p_3
  rw [e_3]
  clear e_3
  dsimp only [rs]
  refine j_if_le 22 dX6_knows_6 (by decide) (fun c_6 => ?_) (fun c_6 => ?_)
  · refine j_iconst (v := 0) dX6_knows_22 (by decide) ?_
    exact j_ireturn dX6_knows_23 rfl rfl (⟨rfl, by simp only [le_i, nI_toInt (n := pl1 (hI h ra) r (hN h ra)) (by omega), nI_toInt (n := pl1 (hI h ca) c (hN h ca)) (by omega), Int32.reduceToInt] at *; first | (rw [b2t (by omega)]; done) | rw [b2f (by omega)]⟩)
  · refine j_aload_n dX6_knows_9 rfl ?_
    refine j_iconst (v := 1) dX6_knows_10 (by decide) ?_
    refine j_iload_n dX6_knows_11 rfl ?_
    refine j_callV2 dX6_knows_12 vl_X6_28 (c_placeOf1 _ hs) (by first | assumption | (simp only [hK_pI, hK_pG, hK_pO]; assumption) | (simp [hK_nw, hK_pI, hK_pG, hK_pO, *]; done)) rfl (by decide) (by omega) (by omega) (Nat.le_of_ble_eq_true rfl) (fun v_12 u_12 p_12 => ?_)
    obtain ⟨e_12, rfl⟩ := p_12
    rw [e_12]
    clear e_12
    dsimp only [rs]
    refine j_if_le 22 dX6_knows_15 (by decide) (fun c_15 => ?_) (fun c_15 => ?_)
    · refine j_iconst (v := 0) dX6_knows_22 (by decide) ?_
      exact j_ireturn dX6_knows_23 rfl rfl (⟨rfl, by simp only [le_i, nI_toInt (n := pl1 (hI h ra) r (hN h ra)) (by omega), nI_toInt (n := pl1 (hI h ca) c (hN h ca)) (by omega), Int32.reduceToInt] at *; first | (rw [b2t (by omega)]; done) | rw [b2f (by omega)]⟩)
    · refine j_iconst (v := 1) dX6_knows_18 (by decide) ?_
      refine j_goto 23 dX6_knows_19 (by decide) ?_
      exact j_ireturn dX6_knows_23 rfl rfl (⟨rfl, by simp only [le_i, nI_toInt (n := pl1 (hI h ra) r (hN h ra)) (by omega), nI_toInt (n := pl1 (hI h ca) c (hN h ca)) (by omega), Int32.reduceToInt] at *; first | (rw [b2t (by omega)]; done) | rw [b2f (by omega)]⟩)

set_option maxRecDepth 20000 in
theorem c_of {h : Hp} {a ra ca xa nr nc : Nat} (r c : Int32) (hs : Sh h a ra ca xa nr nc) : Con mX6_of 3 0 0 [vr (some a), vi r, vi c] h (fun v u => u = h ∧ v = some (vr (atG h xa nc (pl1 (hI h ra) r (hN h ra)) (pl1 (hI h ca) c (hN h ca))))) := by
  obtain ⟨k0, k1, k2, k3, k4, k5, k6, k7, k8, k9, l1, l2, l3, l4⟩ := id hs
  have g1 := pl1_le (hI h ra) r (hN h ra)
  have g2 := pl1_le (hI h ca) c (hN h ca)
  refine con_of rfl (Nat.le_of_ble_eq_true rfl) (by decide) ?_
  show J mX6_of 3 0 0 _ 0 [some (vr (some a)), some (vi r), some (vi c)] [] h
  refine j_aload_n dX6_of_0 rfl ?_
  refine j_aload_n dX6_of_1 rfl ?_
  refine j_iconst (v := 0) dX6_of_2 (by decide) ?_
  refine j_iload_n dX6_of_3 rfl ?_
  refine j_callV2 dX6_of_4 vl_X6_28 (c_placeOf0 _ hs) (by first | assumption | (simp only [hK_pI, hK_pG, hK_pO]; assumption) | (simp [hK_nw, hK_pI, hK_pG, hK_pO, *]; done)) rfl (by decide) (by omega) (by omega) (Nat.le_of_ble_eq_true rfl) (fun v_4 u_4 p_4 => ?_)
  obtain ⟨e_4, rfl⟩ := p_4
  rw [e_4]
  clear e_4
  dsimp only [rs]
  refine j_aload_n dX6_of_7 rfl ?_
  refine j_iconst (v := 1) dX6_of_8 (by decide) ?_
  refine j_iload_n dX6_of_9 rfl ?_
  refine j_callV2 dX6_of_10 vl_X6_28 (c_placeOf1 _ hs) (by first | assumption | (simp only [hK_pI, hK_pG, hK_pO]; assumption) | (simp [hK_nw, hK_pI, hK_pG, hK_pO, *]; done)) rfl (by decide) (by omega) (by omega) (Nat.le_of_ble_eq_true rfl) (fun v_10 u_10 p_10 => ?_)
  obtain ⟨e_10, rfl⟩ := p_10
  rw [e_10]
  clear e_10
  dsimp only [rs]
  refine j_callV2 dX6_of_13 vl_X6_32 (c_atG _ _ (by omega) (by omega) hs) (by first | assumption | (simp only [hK_pI, hK_pG, hK_pO]; assumption) | (simp [hK_nw, hK_pI, hK_pG, hK_pO, *]; done)) rfl (by decide) (by omega) (by omega) (Nat.le_of_ble_eq_true rfl) (fun v_13 u_13 p_13 => ?_)
  obtain ⟨e_13, rfl⟩ := p_13
  rw [e_13]
  clear e_13
  dsimp only [rs]
  exact j_areturn dX6_of_16 rfl rfl (⟨rfl, rfl⟩)

set_option maxRecDepth 20000 in
theorem c_shInit {h : Hp} {a ra ca nr nc : Nat} (k0 : hK h a = 7) (k4 : hK h ra = 15) (k5 : hN h ra = nr) (k6 : hK h ca = 15) (k7 : hN h ca = nc) (l2 : nr ≤ 32) (l4 : nc ≤ 10) : Con mX6_init 1 1 320 [vr (some a), vr (some ra), vr (some ca)] h (fun v u => v = none ∧ ∃ q, hK h q = 0 ∧ u = pO (nw (pO (pO h a 0 (some ra)) a 1 (some ca)) q 19 (nr * nc)) a 2 (some q)) := by
  have hle := rc_le l2 l4
  refine con_of rfl (Nat.le_of_ble_eq_true rfl) (by decide) ?_
  show J mX6_init 1 1 320 _ 0 [some (vr (some a)), some (vr (some ra)), some (vr (some ca))] [] h
  refine j_aload_n dX6_init_0 rfl ?_
  refine j_objInit dX6_init_1 ol_X6_3 ob_1 ob_2 (by decide) (Nat.le_of_ble_eq_true rfl) ?_
  refine j_aload_n dX6_init_4 rfl ?_
  refine j_aload_n dX6_init_5 rfl ?_
  refine j_putOF dX6_init_6 fl_X6_9 rfl (fun _ _ q => by cases q; rfl) rfl (by first | assumption | (simp only [hK_pI, hK_pG, hK_pO]; assumption) | (simp [hK_nw, hK_pI, hK_pG, hK_pO, *]; done)) ?_
  refine j_aload_n dX6_init_9 rfl ?_
  refine j_aload_n dX6_init_10 rfl ?_
  refine j_putOF dX6_init_11 fl_X6_15 rfl (fun _ _ q => by cases q; rfl) rfl (by first | assumption | (simp only [hK_pI, hK_pG, hK_pO]; assumption) | (simp [hK_nw, hK_pI, hK_pG, hK_pO, *]; done)) ?_
  refine j_aload_n dX6_init_14 rfl ?_
  refine j_aload_n dX6_init_15 rfl ?_
  refine j_alen dX6_init_16 (by first | assumption | (simp only [hK_pI, hK_pG, hK_pO]; assumption) | (simp [hK_nw, hK_pI, hK_pG, hK_pO, *]; done)) (by decide) ?_
  refine j_aload_n dX6_init_17 rfl ?_
  refine j_alen dX6_init_18 (by first | assumption | (simp only [hK_pI, hK_pG, hK_pO]; assumption) | (simp [hK_nw, hK_pI, hK_pG, hK_pO, *]; done)) (by decide) ?_
  refine j_imul dX6_init_19 ?_
  refine j_mono (mc' := 0 + 1) (ms' := 0 + nr * nc) (by omega) (by omega) ?_
  refine j_newQ (t := 5) (nr * nc) dX6_init_20 nl_X6_18 ao_1 (by decide) (fun _ => rfl) (by rw [hN_pO, hN_pO, hN_pO, hN_pO, k5, k7, pk_mul]) (by omega) (fun q_20 hq_20 => ?_)
  refine j_putOF dX6_init_23 fl_X6_20 rfl (fun _ _ q => by cases q; rfl) rfl (by rw [hK_nw, if_neg (by rintro rfl; rw [hK_pO, hK_pO] at hq_20; omega)]; exact k0) ?_
  exact j_return dX6_init_26 rfl (⟨rfl, q_20, hq_20, rfl⟩)

/-- the heap behind Sheet.<init> -/
theorem shInit_ok {h u : Hp} {a ra ca xq nr nc : Nat} (k0 : hK h a = 7) (k4 : hK h ra = 15) (k5 : hN h ra = nr) (k6 : hK h ca = 15) (k7 : hN h ca = nc) (l1 : 1 ≤ nr) (l2 : nr ≤ 32) (l3 : 1 ≤ nc) (l4 : nc ≤ 10) (hq : hK h xq = 0) (hu : u = pO (nw (pO (pO h a 0 (some ra)) a 1 (some ca)) xq 19 (nr * nc)) a 2 (some xq)) : Sh u a ra ca xq nr nc ∧ (∀ k, hO u xq k = none) ∧ Fr (fun b => b = a) h u ∧ hO u a 3 = hO h a 3 ∧ a ≠ xq := by
  have n1 : a ≠ xq := by rintro rfl; omega
  have n2 : ra ≠ xq := by rintro rfl; omega
  have n3 : ca ≠ xq := by rintro rfl; omega
  subst hu
  refine ⟨⟨by simp [hK_pO, hK_nw, n1, k0], by simp [hO_pO, hO_nw, n1], by simp [hO_pO, hO_nw, n1], by simp [hO_pO], by simp [hK_pO, hK_nw, n2, k4], by simp [hN_pO, hN_nw, n2, k5], by simp [hK_pO, hK_nw, n3, k6], by simp [hN_pO, hN_nw, n3, k7], by simp [hK_pO, hK_nw], by simp [hN_pO, hN_nw], l1, l2, l3, l4⟩, fun k => by simp [hO_pO, hO_nw, Ne.symm n1], ?_, by simp [hO_pO, hO_nw, n1], n1⟩
  exact Fr_pO (Fr_nw (Fr_pO (Fr_pO Fr_rf (Or.inl rfl)) (Or.inl rfl)) hq) (Or.inl rfl)
set_option maxRecDepth 20000 in
theorem l_twin {h : Hp} {a b xa xq m : Nat} {post : Option Sv ⊕ String → Hp → Prop} (k0 : hK h a = 7) (k1 : hO h a 2 = some xa) (k2 : hK h xa = 19) (k3 : hN h xa = m) (k4 : hK h b = 7) (k5 : hO h b 2 = some xq) (k6 : hK h xq = 19) (k7 : hN h xq = m) (l : m ≤ 320) (n1 : ¬ a = xq) (n2 : ¬ b = xq) (n3 : ¬ xa = xq) (hc : Cel h xa m) (fin : ∀ u, Fr (fun z => z = xq) h u → (∀ j, j < m → hO u xq j = hO h xa j) → post (.inl (some (vr (some b)))) u) : ∀ (n : Nat) (i : Nat) (u : Hp), m - i < n → i ≤ m ∧ Fr (fun z => z = xq) h u ∧ (∀ j, j < i → hO u xq j = hO h xa j) → J mX6_twin 3 0 0 post 18 [some (vr (some a)), some (vr (some b)), some (vi (nI i))] [] u := by
  intro n
  induction n with
  | zero => intro i u hlt; omega
  | succ n ih =>
    intro i u hlt hinv
    have hf := hinv.2.1
    refine j_iload_n dX6_twin_18 rfl ?_
    refine j_aload_n dX6_twin_19 rfl ?_
    refine j_getR dX6_twin_20 fl_X6_20 rfl (by first | assumption | exact Fr_K hf (by assumption) (by decide)) (by first | assumption | exact Fr_O hf (by assumption) (by decide) (by assumption) (by assumption)) ?_
    refine j_alen dX6_twin_23 (by first | assumption | exact Fr_K hf (by assumption) (by decide)) (by decide) ?_
    rw [Fr_N hf k2 (by decide) k3]
    refine j_icmp_ge 45 dX6_twin_24 (by decide) (fun c_24 => ?_) (fun c_24 => ?_)
    · rw [nI_leI (by omega) (by omega)] at c_24
      have he : i = m := by omega
      refine j_aload_n dX6_twin_45 rfl ?_
      exact j_areturn dX6_twin_46 rfl rfl (fin u hf (fun j hj => hinv.2.2 j (by omega)))
    · have hlt2 : i < m := by rw [nI_leI (by omega) (by omega)] at c_24; omega
      have hN1 := Fr_N hf k2 (by decide) k3
      have hN2 := Fr_N hf k6 (by decide) k7
      refine j_aload_n dX6_twin_27 rfl ?_
      refine j_getR dX6_twin_28 fl_X6_20 rfl (by first | assumption | exact Fr_K hf (by assumption) (by decide)) (by first | assumption | exact Fr_O hf (by assumption) (by decide) (by assumption) (by assumption)) ?_
      refine j_iload_n dX6_twin_31 rfl ?_
      refine j_aload_n dX6_twin_32 rfl ?_
      refine j_getR dX6_twin_33 fl_X6_20 rfl (by first | assumption | exact Fr_K hf (by assumption) (by decide)) (by first | assumption | exact Fr_O hf (by assumption) (by decide) (by assumption) (by assumption)) ?_
      refine j_iload_n dX6_twin_36 rfl ?_
      refine j_aald (i) dX6_twin_37 (by first | assumption | exact Fr_K hf (by assumption) (by decide)) (by decide) (by decide) (by simp (disch := omega) only [li_1, li_2, li_3, li_4, li_5, li_6, li_7, li_8, li_10, li_20, li_24, li_32, li_40, li_64, li_320, pk_sub, pk_mul, nI_add, inc1]; try (congr 1; (try simp only [Nat.add_sub_cancel]); (try omega))) (by first | assumption | omega | (simp only [hN_pI, hN_pG, hN_pO] at *; omega) | (simp [hN_nw, hN_pI, hN_pG, hN_pO, *]; omega)) (by first | assumption | omega | (simp only [hN_pI, hN_pG, hN_pO] at *; omega) | (simp [hN_nw, hN_pI, hN_pG, hN_pO, *]; omega)) ?_
      refine j_aast (i) dX6_twin_38 (by first | assumption | exact Fr_K hf (by assumption) (by decide)) (by decide) (by decide) (by simp (disch := omega) only [li_1, li_2, li_3, li_4, li_5, li_6, li_7, li_8, li_10, li_20, li_24, li_32, li_40, li_64, li_320, pk_sub, pk_mul, nI_add, inc1]; try (congr 1; (try simp only [Nat.add_sub_cancel]); (try omega))) (by first | assumption | omega | (simp only [hN_pI, hN_pG, hN_pO] at *; omega) | (simp [hN_nw, hN_pI, hN_pG, hN_pO, *]; omega)) (by first | assumption | omega | (simp only [hN_pI, hN_pG, hN_pO] at *; omega) | (simp [hN_nw, hN_pI, hN_pG, hN_pO, *]; omega)) (fun v hv => by rw [((hf xa (by omega)).2.2 n3).2.2] at hv; exact Fr_K hf (hc i v hlt2 hv) (by decide)) ?_
      refine j_iinc dX6_twin_39 rfl ?_
      dsimp only [st1, st2, unL, List.set]
      refine j_goto 18 dX6_twin_42 (by decide) ?_
      refine j_lle (lv' := [some (vr (some a)), some (vr (some b)), some (vi (nI (i + 1)))]) (by simp [lle, nI_1]) ?_
      exact ih (i + 1) _ (by omega) ⟨by omega, Fr_pO hf (Or.inl rfl), lt_s (fun j hj => by rw [hO_pO, if_neg (by omega)]; exact hinv.2.2 j hj) (by rw [hO_pO, if_pos ⟨rfl, rfl⟩]; exact Fr_O hf k2 (by decide) n3 rfl)⟩

set_option maxRecDepth 20000 in
theorem c_twin {h : Hp} {a ra ca xa nr nc : Nat} (hs : Sh h a ra ca xa nr nc) (hc : Cel h xa (nr * nc)) : Con mX6_twin 3 2 324 [vr (some a)] h (fun v u => ∃ q xq, v = some (vr (some q)) ∧ hK h q = 0 ∧ hK h xq = 0 ∧ Sh u q ra ca xq nr nc ∧ Ex h u ∧ hO u q 3 = none ∧ ∀ k, k < nr * nc → hO u xq k = hO h xa k) := by
  obtain ⟨k0, k1, k2, k3, k4, k5, k6, k7, k8, k9, l1, l2, l3, l4⟩ := id hs
  have hle := rc_le l2 l4
  refine con_of rfl (Nat.le_of_ble_eq_true rfl) (by decide) ?_
  show J mX6_twin 3 2 324 _ 0 [some (vr (some a)), none, none] [] h
  refine j_mono (mc' := 1 + 1) (ms' := 320 + fnum 6) (by decide) (by decide) ?_
  refine j_new dX6_twin_0 cl_6 nl_X6_10 iw_6 zw_6 (fun q_0 hq_0 => ?_)
  refine j_dup dX6_twin_3 rfl ?_
  have m1 : a ≠ q_0 := by rintro rfl; omega
  have m2 : ra ≠ q_0 := by rintro rfl; omega
  have m3 : ca ≠ q_0 := by rintro rfl; omega
  have m4 : xa ≠ q_0 := by rintro rfl; omega
  have g0 : hK (nw h q_0 (6 + 1) 0) a = 7 := by rw [hK_nw, if_neg m1, k0]
  have g1 : hO (nw h q_0 (6 + 1) 0) a 0 = some ra := by rw [hO_nw, if_neg m1, k1]
  have g2 : hO (nw h q_0 (6 + 1) 0) a 1 = some ca := by rw [hO_nw, if_neg m1, k2]
  have g3 : hO (nw h q_0 (6 + 1) 0) a 2 = some xa := by rw [hO_nw, if_neg m1, k3]
  have g4 : hK (nw h q_0 (6 + 1) 0) ra = 15 := by rw [hK_nw, if_neg m2, k4]
  have g5 : hN (nw h q_0 (6 + 1) 0) ra = nr := by rw [hN_nw, if_neg m2, k5]
  have g6 : hK (nw h q_0 (6 + 1) 0) ca = 15 := by rw [hK_nw, if_neg m3, k6]
  have g7 : hN (nw h q_0 (6 + 1) 0) ca = nc := by rw [hN_nw, if_neg m3, k7]
  have g8 : hK (nw h q_0 (6 + 1) 0) xa = 19 := by rw [hK_nw, if_neg m4, k8]
  have g9 : hN (nw h q_0 (6 + 1) 0) xa = nr * nc := by rw [hN_nw, if_neg m4, k9]
  have ga : hK (nw h q_0 (6 + 1) 0) q_0 = 7 := by rw [hK_nw, if_pos rfl]
  have fx : Ex h (nw h q_0 (6 + 1) 0) := Fr_nw Fr_rf hq_0
  have go : hO (nw h q_0 (6 + 1) 0) q_0 3 = none := by rw [hO_nw, if_pos rfl]
  generalize nw h q_0 (6 + 1) 0 = h1 at *
  refine j_aload_n dX6_twin_4 rfl ?_
  refine j_getR dX6_twin_5 fl_X6_9 rfl (by first | assumption | (simp only [hK_pI, hK_pG, hK_pO]; assumption) | (simp [hK_nw, hK_pI, hK_pG, hK_pO, *]; done)) (by first | assumption | (simp only [hO_pI, hO_pG]; assumption) | (simp [hO_pO, hO_nw, hO_pI, hO_pG, *]; done)) ?_
  refine j_aload_n dX6_twin_8 rfl ?_
  refine j_getR dX6_twin_9 fl_X6_15 rfl (by first | assumption | (simp only [hK_pI, hK_pG, hK_pO]; assumption) | (simp [hK_nw, hK_pI, hK_pG, hK_pO, *]; done)) (by first | assumption | (simp only [hO_pI, hO_pG]; assumption) | (simp [hO_pO, hO_nw, hO_pI, hO_pG, *]; done)) ?_
  refine j_callI2 dX6_twin_12 il_X6_40 (c_shInit ga g4 g5 g6 g7 l2 l4) rfl (by decide) (by omega) (by omega) (Nat.le_of_ble_eq_true rfl) (fun v_12 u_12 p_12 => ?_)
  obtain ⟨rfl, q, hq1, hu⟩ := p_12
  obtain ⟨s1, s2, fr, s4, s5⟩ := shInit_ok ga g4 g5 g6 g7 l1 l2 l3 l4 hq1 hu
  dsimp only [rs]
  refine j_astore_n dX6_twin_15 (by decide) ?_
  dsimp only [st1, st2, unL, List.set]
  refine j_iconst (v := 0) dX6_twin_16 (by decide) ?_
  refine j_istore_n dX6_twin_17 (by decide) ?_
  dsimp only [st1, st2, unL, List.set]
  have hq2 : hK h q = 0 := by
    refine Classical.byContradiction fun z => ?_
    rw [(fx q z).1] at hq1; exact z hq1
  have n1 : ¬ a = q := by rintro rfl; omega
  have n3 : ¬ xa = q := by rintro rfl; omega
  have hs2 := Sh_fr fr m1 ⟨g0, g1, g2, g3, g4, g5, g6, g7, g8, g9, l1, l2, l3, l4⟩
  have hs1 := s1
  have hxx : hO u_12 xa = hO h xa := by rw [((fr xa (by omega)).2.2 m4).2.2, ((fx xa (by omega)).2.2 (fun z => z)).2.2]
  refine j_mono (Nat.zero_le _) (Nat.zero_le _) (l_twin hs2.1 hs2.2.2.2.1 hs2.2.2.2.2.2.2.2.2.1 hs2.2.2.2.2.2.2.2.2.2.1 hs1.1 hs1.2.2.2.1 hs1.2.2.2.2.2.2.2.2.1 hs1.2.2.2.2.2.2.2.2.2.1 hle n1 s5 n3 (fun k v hk hv => ?_) (fun u hf hcp => ?_) (nr * nc + 1) 0 u_12 (by omega) ⟨by omega, Fr_rf, lt_0⟩)
  · rw [hxx] at hv
    have := hc k v hk hv
    exact Fr_K fr (Fr_K fx this (by decide)) (by decide)
  · refine ⟨q_0, q, rfl, hq_0, hq2, Sh_fr hf s5 hs1, ?_, ?_, fun k hk => ?_⟩
    · exact Fr_tr2 (Fr_tr2 fx fr (fun b hb z => by subst z; exact hb hq_0)) hf (fun b hb z => by subst z; exact hb hq2)
    · rw [((hf q_0 (by rw [hs1.1]; decide)).2.2 s5).2.2, s4, go]
    · rw [hcp k hk, hxx]

