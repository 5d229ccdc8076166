/-! ===== Sheet: rows, columns, cells ===== -/
/-- a sheet at a: nr rows by their numbers in ra, nc columns in ca, cells in xa -/
def Sh (h : Hp) (a ra ca xa nr nc : Nat) : Prop := hK h a = 7 ∧ hO h a 0 = some ra ∧ hO h a 1 = some ca ∧ hO h a 2 = some xa ∧ hK h ra = 15 ∧ hN h ra = nr ∧ hK h ca = 15 ∧ hN h ca = nc ∧ hK h xa = 19 ∧ hN h xa = nr * nc ∧ 1 ≤ nr ∧ nr ≤ 32 ∧ 1 ≤ nc ∧ nc ≤ 10
abbrev inSh (nr nc : Nat) (r c : Int32) : Prop := 1 ≤ r.toInt ∧ r.toInt ≤ nr ∧ 1 ≤ c.toInt ∧ c.toInt ≤ nc
theorem inSh_n {nr nc i j : Nat} (h1 : nr ≤ 32) (h2 : nc ≤ 10) (hi : i < nr) (hj : j < nc) : inSh nr nc (nI (i + 1)) (nI (j + 1)) := by
  simp only [inSh, nI_toInt (n := i + 1) (by omega), nI_toInt (n := j + 1) (by omega)]; omega
theorem rc_lt {nr nc i j : Nat} (hi : i < nr) (hj : j < nc) : i * nc + j < nr * nc := by
  have : (i + 1) * nc ≤ nr * nc := Nat.mul_le_mul_right nc hi
  rw [Nat.succ_mul] at this; omega
theorem rc_le {nr nc : Nat} (h1 : nr ≤ 32) (h2 : nc ≤ 10) : nr * nc ≤ 320 := Nat.mul_le_mul h1 h2
/-- the cells hold contents or nothing -/
def Cel (h : Hp) (xa n : Nat) : Prop := ∀ k v, k < n → hO h xa k = some v → hK h v = 2
theorem Sh_fr {S : Nat → Prop} {h u : Hp} {a ra ca xa nr nc : Nat} (f : Fr S h u) (ha : ¬ S a) (hs : Sh h a ra ca xa nr nc) : Sh u a ra ca xa nr nc := by
  obtain ⟨k0, k1, k2, k3, k4, k5, k6, k7, k8, k9, l⟩ := hs
  exact ⟨Fr_K f k0 (by decide), Fr_O f k0 (by decide) ha k1, Fr_O f k0 (by decide) ha k2, Fr_O f k0 (by decide) ha k3, Fr_K f k4 (by decide), Fr_N f k4 (by decide) k5, Fr_K f k6 (by decide), Fr_N f k6 (by decide) k7, Fr_K f k8 (by decide), Fr_N f k8 (by decide) k9, l⟩
set_option maxRecDepth 20000 in
theorem c_has {h : Hp} {a ra ca xa nr nc : Nat} (r c : Int32) (hs : Sh h a ra ca xa nr nc) : Con mX6_has 1 0 0 [vr (some a), vi r, vi c] h (fun v u => u = h ∧ v = some (vi (b2 (inSh nr nc r c)))) := by
  obtain ⟨k0, k1, k2, k3, k4, k5, k6, k7, k8, k9, l1, l2, l3, l4⟩ := id hs
  subst k5 k7
  refine con_of rfl (Nat.le_of_ble_eq_true rfl) (by decide) ?_
  show J mX6_has 1 0 0 _ 0 [some (vr (some a)), some (vi r), some (vi c)] [] h
  refine j_iload_n dX6_has_0 rfl ?_
  refine j_iconst (v := 1) dX6_has_1 (by decide) ?_
  refine j_icmp_lt 32 dX6_has_2 (by decide) (fun c_2 => ?_) (fun c_2 => ?_)
  · refine j_iconst (v := 0) dX6_has_32 (by decide) ?_
    exact j_ireturn dX6_has_33 rfl rfl (⟨rfl, by simp only [lt_i, le_i, nI_toInt (n := hN h ra) (by omega), nI_toInt (n := hN h ca) (by omega), Int32.reduceToInt] at *; first | (rw [b2t (by omega)]; done) | rw [b2f (by omega)]⟩)
  · refine j_iload_n dX6_has_5 rfl ?_
    refine j_aload_n dX6_has_6 rfl ?_
    refine j_getR dX6_has_7 fl_X6_9 rfl (by first | assumption | (simp only [hK_pI, hK_pG, hK_pO]; assumption) | (simp [hK_nw, hK_pI, hK_pG, hK_pO, *]; done)) (by first | assumption | (simp only [hO_pI, hO_pG]; assumption) | (simp [hO_pO, hO_nw, hO_pI, hO_pG, *]; done)) ?_
    refine j_alen dX6_has_10 (by first | assumption | (simp only [hK_pI, hK_pG, hK_pO]; assumption) | (simp [hK_nw, hK_pI, hK_pG, hK_pO, *]; done)) (by decide) ?_
    refine j_icmp_gt 32 dX6_has_11 (by decide) (fun c_11 => ?_) (fun c_11 => ?_)
    · refine j_iconst (v := 0) dX6_has_32 (by decide) ?_
      exact j_ireturn dX6_has_33 rfl rfl (⟨rfl, by simp only [lt_i, le_i, nI_toInt (n := hN h ra) (by omega), nI_toInt (n := hN h ca) (by omega), Int32.reduceToInt] at *; first | (rw [b2t (by omega)]; done) | rw [b2f (by omega)]⟩)
    · refine j_iload_n dX6_has_14 rfl ?_
      refine j_iconst (v := 1) dX6_has_15 (by decide) ?_
      refine j_icmp_lt 32 dX6_has_16 (by decide) (fun c_16 => ?_) (fun c_16 => ?_)
      · refine j_iconst (v := 0) dX6_has_32 (by decide) ?_
        exact j_ireturn dX6_has_33 rfl rfl (⟨rfl, by simp only [lt_i, le_i, nI_toInt (n := hN h ra) (by omega), nI_toInt (n := hN h ca) (by omega), Int32.reduceToInt] at *; first | (rw [b2t (by omega)]; done) | rw [b2f (by omega)]⟩)
      · refine j_iload_n dX6_has_19 rfl ?_
        refine j_aload_n dX6_has_20 rfl ?_
        refine j_getR dX6_has_21 fl_X6_15 rfl (by first | assumption | (simp only [hK_pI, hK_pG, hK_pO]; assumption) | (simp [hK_nw, hK_pI, hK_pG, hK_pO, *]; done)) (by first | assumption | (simp only [hO_pI, hO_pG]; assumption) | (simp [hO_pO, hO_nw, hO_pI, hO_pG, *]; done)) ?_
        refine j_alen dX6_has_24 (by first | assumption | (simp only [hK_pI, hK_pG, hK_pO]; assumption) | (simp [hK_nw, hK_pI, hK_pG, hK_pO, *]; done)) (by decide) ?_
        refine j_icmp_gt 32 dX6_has_25 (by decide) (fun c_25 => ?_) (fun c_25 => ?_)
        · refine j_iconst (v := 0) dX6_has_32 (by decide) ?_
          exact j_ireturn dX6_has_33 rfl rfl (⟨rfl, by simp only [lt_i, le_i, nI_toInt (n := hN h ra) (by omega), nI_toInt (n := hN h ca) (by omega), Int32.reduceToInt] at *; first | (rw [b2t (by omega)]; done) | rw [b2f (by omega)]⟩)
        · refine j_iconst (v := 1) dX6_has_28 (by decide) ?_
          refine j_goto 33 dX6_has_29 (by decide) ?_
          exact j_ireturn dX6_has_33 rfl rfl (⟨rfl, by simp only [lt_i, le_i, nI_toInt (n := hN h ra) (by omega), nI_toInt (n := hN h ca) (by omega), Int32.reduceToInt] at *; first | (rw [b2t (by omega)]; done) | rw [b2f (by omega)]⟩)

set_option maxRecDepth 20000 in
theorem c_line0 {h : Hp} {a ra ca xa nr nc : Nat} (hs : Sh h a ra ca xa nr nc) : Con mX6_line 1 0 0 [vr (some a), vi 0] h (fun v u => u = h ∧ v = some (vr (some ra))) := by
  obtain ⟨k0, k1, k2, k3, k4, k5, k6, k7, k8, k9, l1, l2, l3, l4⟩ := id hs
  subst k5 k7
  refine con_of rfl (Nat.le_of_ble_eq_true rfl) (by decide) ?_
  show J mX6_line 1 0 0 _ 0 [some (vr (some a)), some (vi 0)] [] h
  refine j_iload_n dX6_line_0 rfl ?_
  refine j_if_ne 11 dX6_line_1 (by decide) (fun c_1 => ?_) (fun c_1 => ?_)
  · refine j_aload_n dX6_line_11 rfl ?_
    refine j_getR dX6_line_12 fl_X6_15 rfl (by first | assumption | (simp only [hK_pI, hK_pG, hK_pO]; assumption) | (simp [hK_nw, hK_pI, hK_pG, hK_pO, *]; done)) (by first | assumption | (simp only [hO_pI, hO_pG]; assumption) | (simp [hO_pO, hO_nw, hO_pI, hO_pG, *]; done)) ?_
    exact j_areturn dX6_line_15 rfl rfl (⟨rfl, by first | rfl | exact absurd rfl c_1 | exact absurd c_1 (by decide)⟩)
  · refine j_aload_n dX6_line_4 rfl ?_
    refine j_getR dX6_line_5 fl_X6_9 rfl (by first | assumption | (simp only [hK_pI, hK_pG, hK_pO]; assumption) | (simp [hK_nw, hK_pI, hK_pG, hK_pO, *]; done)) (by first | assumption | (simp only [hO_pI, hO_pG]; assumption) | (simp [hO_pO, hO_nw, hO_pI, hO_pG, *]; done)) ?_
    refine j_goto 15 dX6_line_8 (by decide) ?_
    exact j_areturn dX6_line_15 rfl rfl (⟨rfl, by first | rfl | exact absurd rfl c_1 | exact absurd c_1 (by decide)⟩)

set_option maxRecDepth 20000 in
theorem c_line1 {h : Hp} {a ra ca xa nr nc : Nat} (hs : Sh h a ra ca xa nr nc) : Con mX6_line 1 0 0 [vr (some a), vi 1] h (fun v u => u = h ∧ v = some (vr (some ca))) := by
  obtain ⟨k0, k1, k2, k3, k4, k5, k6, k7, k8, k9, l1, l2, l3, l4⟩ := id hs
  subst k5 k7
  refine con_of rfl (Nat.le_of_ble_eq_true rfl) (by decide) ?_
  show J mX6_line 1 0 0 _ 0 [some (vr (some a)), some (vi 1)] [] h
  refine j_iload_n dX6_line_0 rfl ?_
  refine j_if_ne 11 dX6_line_1 (by decide) (fun c_1 => ?_) (fun c_1 => ?_)
  · refine j_aload_n dX6_line_11 rfl ?_
    refine j_getR dX6_line_12 fl_X6_15 rfl (by first | assumption | (simp only [hK_pI, hK_pG, hK_pO]; assumption) | (simp [hK_nw, hK_pI, hK_pG, hK_pO, *]; done)) (by first | assumption | (simp only [hO_pI, hO_pG]; assumption) | (simp [hO_pO, hO_nw, hO_pI, hO_pG, *]; done)) ?_
    exact j_areturn dX6_line_15 rfl rfl (⟨rfl, by first | rfl | exact absurd rfl c_1 | exact absurd c_1 (by decide)⟩)
  · refine j_aload_n dX6_line_4 rfl ?_
    refine j_getR dX6_line_5 fl_X6_9 rfl (by first | assumption | (simp only [hK_pI, hK_pG, hK_pO]; assumption) | (simp [hK_nw, hK_pI, hK_pG, hK_pO, *]; done)) (by first | assumption | (simp only [hO_pI, hO_pG]; assumption) | (simp [hO_pO, hO_nw, hO_pI, hO_pG, *]; done)) ?_
    refine j_goto 15 dX6_line_8 (by decide) ?_
    exact j_areturn dX6_line_15 rfl rfl (⟨rfl, by first | rfl | exact absurd rfl c_1 | exact absurd c_1 (by decide)⟩)

set_option maxRecDepth 20000 in
theorem c_at {h : Hp} {a ra ca xa nr nc : Nat} (i j : Nat) (hi : i < nr) (hj : j < nc) (hs : Sh h a ra ca xa nr nc) : Con mX6_at 2 0 0 [vr (some a), vi (nI (i + 1)), vi (nI (j + 1))] h (fun v u => u = h ∧ v = some (vr (hO h xa (i * nc + j)))) := by
  obtain ⟨k0, k1, k2, k3, k4, k5, k6, k7, k8, k9, l1, l2, l3, l4⟩ := id hs
  have hin := inSh_n l2 l4 hi hj
  have hlt := rc_lt hi hj
  have hle := rc_le l2 l4
  refine con_of rfl (Nat.le_of_ble_eq_true rfl) (by decide) ?_
  show J mX6_at 2 0 0 _ 0 [some (vr (some a)), some (vi (nI (i + 1))), some (vi (nI (j + 1)))] [] h
  refine j_aload_n dX6_at_0 rfl ?_
  refine j_iload_n dX6_at_1 rfl ?_
  refine j_iload_n dX6_at_2 rfl ?_
  refine j_callV2 dX6_at_3 vl_X6_24 (c_has _ _ hs) (by first | assumption | (simp only [hK_pI, hK_pG, hK_pO]; assumption) | (simp [hK_nw, hK_pI, hK_pG, hK_pO, *]; done)) rfl (by decide) (by omega) (by omega) (Nat.le_of_ble_eq_true rfl) (fun v_3 u_3 p_3 => ?_)
  obtain ⟨e_3, rfl⟩ := p_3
  rw [e_3]
  clear e_3
  dsimp only [rs]
  refine j_if_eq 30 dX6_at_6 (by decide) (fun c_6 => ?_) (fun c_6 => ?_)
  · exact absurd hin (b2_0.mp c_6)
  · refine j_aload_n dX6_at_9 rfl ?_
    refine j_getR dX6_at_10 fl_X6_20 rfl (by first | assumption | (simp only [hK_pI, hK_pG, hK_pO]; assumption) | (simp [hK_nw, hK_pI, hK_pG, hK_pO, *]; done)) (by first | assumption | (simp only [hO_pI, hO_pG]; assumption) | (simp [hO_pO, hO_nw, hO_pI, hO_pG, *]; done)) ?_
    refine j_iload_n dX6_at_13 rfl ?_
    refine j_iconst (v := 1) dX6_at_14 (by decide) ?_
    refine j_isub dX6_at_15 ?_
    refine j_aload_n dX6_at_16 rfl ?_
    refine j_getR dX6_at_17 fl_X6_15 rfl (by first | assumption | (simp only [hK_pI, hK_pG, hK_pO]; assumption) | (simp [hK_nw, hK_pI, hK_pG, hK_pO, *]; done)) (by first | assumption | (simp only [hO_pI, hO_pG]; assumption) | (simp [hO_pO, hO_nw, hO_pI, hO_pG, *]; done)) ?_
    refine j_alen dX6_at_20 (by first | assumption | (simp only [hK_pI, hK_pG, hK_pO]; assumption) | (simp [hK_nw, hK_pI, hK_pG, hK_pO, *]; done)) (by decide) ?_
    refine j_imul dX6_at_21 ?_
    refine j_iload_n dX6_at_22 rfl ?_
    refine j_iadd dX6_at_23 ?_
    refine j_iconst (v := 1) dX6_at_24 (by decide) ?_
    refine j_isub dX6_at_25 ?_
    rw [k7]
    refine j_aald (i * nc + j) dX6_at_26 k8 (by decide) (by decide) (by simp (disch := omega) only [li_1, li_2, li_3, li_4, li_5, li_6, li_7, li_8, li_10, li_20, li_24, li_32, li_40, li_64, li_320, pk_sub, pk_mul, nI_add, inc1]; try (congr 1; (try simp only [Nat.add_sub_cancel]); (try omega))) (by omega) (by omega) ?_
    refine j_goto 31 dX6_at_27 (by decide) ?_
    exact j_areturn dX6_at_31 rfl rfl (⟨rfl, rfl⟩)

set_option maxRecDepth 20000 in
theorem c_atN {h : Hp} {a ra ca xa nr nc : Nat} (r c : Int32) (hn : ¬ inSh nr nc r c) (hs : Sh h a ra ca xa nr nc) : Con mX6_at 2 0 0 [vr (some a), vi r, vi c] h (fun v u => u = h ∧ v = some (vr none)) := by
  obtain ⟨k0, k1, k2, k3, k4, k5, k6, k7, k8, k9, l1, l2, l3, l4⟩ := id hs
  refine con_of rfl (Nat.le_of_ble_eq_true rfl) (by decide) ?_
  show J mX6_at 2 0 0 _ 0 [some (vr (some a)), some (vi r), some (vi c)] [] h
  refine j_aload_n dX6_at_0 rfl ?_
  refine j_iload_n dX6_at_1 rfl ?_
  refine j_iload_n dX6_at_2 rfl ?_
  refine j_callV2 dX6_at_3 vl_X6_24 (c_has _ _ hs) (by first | assumption | (simp only [hK_pI, hK_pG, hK_pO]; assumption) | (simp [hK_nw, hK_pI, hK_pG, hK_pO, *]; done)) rfl (by decide) (by omega) (by omega) (Nat.le_of_ble_eq_true rfl) (fun v_3 u_3 p_3 => ?_)
  obtain ⟨e_3, rfl⟩ := p_3
  rw [e_3]
  clear e_3
  dsimp only [rs]
  refine j_if_eq 30 dX6_at_6 (by decide) (fun c_6 => ?_) (fun c_6 => ?_)
  · refine j_null dX6_at_30 ?_
    exact j_areturn dX6_at_31 rfl rfl (⟨rfl, rfl⟩)
  · exact absurd (b2_nn.mp c_6) hn

set_option maxRecDepth 20000 in
theorem c_put {h : Hp} {a ra ca xa nr nc : Nat} (i j : Nat) (hi : i < nr) (hj : j < nc) {x : Option Nat} (hx : ∀ v, x = some v → hK h v = 2) (hs : Sh h a ra ca xa nr nc) : Con mX6_put 2 0 0 [vr (some a), vi (nI (i + 1)), vi (nI (j + 1)), vr x] h (fun v u => u = pO h xa (i * nc + j) x ∧ v = none) := by
  obtain ⟨k0, k1, k2, k3, k4, k5, k6, k7, k8, k9, l1, l2, l3, l4⟩ := id hs
  have hin := inSh_n l2 l4 hi hj
  have hlt := rc_lt hi hj
  have hle := rc_le l2 l4
  refine con_of rfl (Nat.le_of_ble_eq_true rfl) (by decide) ?_
  show J mX6_put 2 0 0 _ 0 [some (vr (some a)), some (vi (nI (i + 1))), some (vi (nI (j + 1))), some (vr x)] [] h
  refine j_aload_n dX6_put_0 rfl ?_
  refine j_iload_n dX6_put_1 rfl ?_
  refine j_iload_n dX6_put_2 rfl ?_
  refine j_callV2 dX6_put_3 vl_X6_24 (c_has _ _ hs) (by first | assumption | (simp only [hK_pI, hK_pG, hK_pO]; assumption) | (simp [hK_nw, hK_pI, hK_pG, hK_pO, *]; done)) rfl (by decide) (by omega) (by omega) (Nat.le_of_ble_eq_true rfl) (fun v_3 u_3 p_3 => ?_)
  obtain ⟨e_3, rfl⟩ := p_3
  rw [e_3]
  clear e_3
  dsimp only [rs]
  refine j_if_eq 28 dX6_put_6 (by decide) (fun c_6 => ?_) (fun c_6 => ?_)
  · first | exact absurd hin (b2_0.mp c_6) | exact j_return dX6_put_28 rfl ⟨rfl, rfl⟩
  · refine j_aload_n dX6_put_9 rfl ?_
    refine j_getR dX6_put_10 fl_X6_20 rfl (by first | assumption | (simp only [hK_pI, hK_pG, hK_pO]; assumption) | (simp [hK_nw, hK_pI, hK_pG, hK_pO, *]; done)) (by first | assumption | (simp only [hO_pI, hO_pG]; assumption) | (simp [hO_pO, hO_nw, hO_pI, hO_pG, *]; done)) ?_
    refine j_iload_n dX6_put_13 rfl ?_
    refine j_iconst (v := 1) dX6_put_14 (by decide) ?_
    refine j_isub dX6_put_15 ?_
    refine j_aload_n dX6_put_16 rfl ?_
    refine j_getR dX6_put_17 fl_X6_15 rfl (by first | assumption | (simp only [hK_pI, hK_pG, hK_pO]; assumption) | (simp [hK_nw, hK_pI, hK_pG, hK_pO, *]; done)) (by first | assumption | (simp only [hO_pI, hO_pG]; assumption) | (simp [hO_pO, hO_nw, hO_pI, hO_pG, *]; done)) ?_
    refine j_alen dX6_put_20 (by first | assumption | (simp only [hK_pI, hK_pG, hK_pO]; assumption) | (simp [hK_nw, hK_pI, hK_pG, hK_pO, *]; done)) (by decide) ?_
    refine j_imul dX6_put_21 ?_
    refine j_iload_n dX6_put_22 rfl ?_
    refine j_iadd dX6_put_23 ?_
    refine j_iconst (v := 1) dX6_put_24 (by decide) ?_
    refine j_isub dX6_put_25 ?_
    refine j_aload_n dX6_put_26 rfl ?_
    rw [k7]
    refine j_aast (i * nc + j) dX6_put_27 k8 (by decide) (by decide) (by simp (disch := omega) only [li_1, li_2, li_3, li_4, li_5, li_6, li_7, li_8, li_10, li_20, li_24, li_32, li_40, li_64, li_320, pk_sub, pk_mul, nI_add, inc1]; try (congr 1; (try simp only [Nat.add_sub_cancel]); (try omega))) (by omega) (by omega) hx ?_
    first | exact absurd hin (b2_0.mp c_6) | exact j_return dX6_put_28 rfl ⟨rfl, rfl⟩

set_option maxRecDepth 20000 in
theorem c_putN {h : Hp} {a ra ca xa nr nc : Nat} (r c : Int32) (hn : ¬ inSh nr nc r c) {x : Option Nat} (hs : Sh h a ra ca xa nr nc) : Con mX6_put 2 0 0 [vr (some a), vi r, vi c, vr x] h (fun v u => u = h ∧ v = none) := by
  obtain ⟨k0, k1, k2, k3, k4, k5, k6, k7, k8, k9, l1, l2, l3, l4⟩ := id hs
  refine con_of rfl (Nat.le_of_ble_eq_true rfl) (by decide) ?_
  show J mX6_put 2 0 0 _ 0 [some (vr (some a)), some (vi r), some (vi c), some (vr x)] [] h
  refine j_aload_n dX6_put_0 rfl ?_
  refine j_iload_n dX6_put_1 rfl ?_
  refine j_iload_n dX6_put_2 rfl ?_
  refine j_callV2 dX6_put_3 vl_X6_24 (c_has _ _ hs) (by first | assumption | (simp only [hK_pI, hK_pG, hK_pO]; assumption) | (simp [hK_nw, hK_pI, hK_pG, hK_pO, *]; done)) rfl (by decide) (by omega) (by omega) (Nat.le_of_ble_eq_true rfl) (fun v_3 u_3 p_3 => ?_)
  obtain ⟨e_3, rfl⟩ := p_3
  rw [e_3]
  clear e_3
  dsimp only [rs]
  refine j_if_eq 28 dX6_put_6 (by decide) (fun c_6 => ?_) (fun c_6 => ?_)
  · exact j_return dX6_put_28 rfl (⟨rfl, rfl⟩)
  · exact absurd (b2_nn.mp c_6) hn

set_option maxRecDepth 20000 in
theorem l_placeOf {h : Hp} {la : Nat} {o ax : Sv} {idn : Int32} (k4 : hK h la = 15) (k5 : hN h la ≤ 32) : ∀ (n : Nat) (i : Nat), hN h la - i < n → i ≤ hN h la ∧ (∀ j, j < i → hI h la j ≠ idn) → J mX6_placeOf 1 0 0 (nx (fun v u => u = h ∧ v = some (vi (nI (pl1 (hI h la) idn (hN h la)))))) 19 [some o, some ax, some (vi idn), some (vr (some la)), some (vi (nI i))] [] h := by
  intro n
  induction n with
  | zero => intro i hlt; omega
  | succ n ih =>
    intro i hlt hinv
    refine j_iload dX6_placeOf_19 rfl ?_
    refine j_aload_n dX6_placeOf_21 rfl ?_
    refine j_alen dX6_placeOf_22 (by first | assumption | (simp only [hK_pI, hK_pG, hK_pO]; assumption) | (simp [hK_nw, hK_pI, hK_pG, hK_pO, *]; done)) (by decide) ?_
    refine j_icmp_ge 45 dX6_placeOf_23 (by decide) (fun c_23 => ?_) (fun c_23 => ?_)
    · rw [nI_leI (by omega) (by omega)] at c_23
      have he : i = hN h la := by omega
      refine j_iconst (v := 0) dX6_placeOf_45 (by decide) ?_
      exact j_ireturn dX6_placeOf_46 rfl rfl ⟨rfl, by rw [pl1_none (fun j hj => hinv.2 j (by omega))]; rfl⟩
    · have hlt2 : i < hN h la := by rw [nI_leI (by omega) (by omega)] at c_23; omega
      refine j_aload_n dX6_placeOf_26 rfl ?_
      refine j_iload dX6_placeOf_27 rfl ?_
      refine j_iald (i) dX6_placeOf_29 (by first | assumption | (simp only [hK_pI, hK_pG, hK_pO]; assumption) | (simp [hK_nw, hK_pI, hK_pG, hK_pO, *]; done)) (by simp (disch := omega) only [li_1, li_2, li_3, li_4, li_5, li_6, li_7, li_8, li_10, li_20, li_24, li_32, li_40, li_64, li_320, pk_sub, pk_mul, nI_add, inc1]; try (congr 1; (try simp only [Nat.add_sub_cancel]); (try omega))) (by first | assumption | omega | (simp only [hN_pI, hN_pG, hN_pO] at *; omega) | (simp [hN_nw, hN_pI, hN_pG, hN_pO, *]; omega)) (by first | assumption | omega | (simp only [hN_pI, hN_pG, hN_pO] at *; omega) | (simp [hN_nw, hN_pI, hN_pG, hN_pO, *]; omega)) ?_
      refine j_iload_n dX6_placeOf_30 rfl ?_
      refine j_icmp_ne 39 dX6_placeOf_31 (by decide) (fun c_31 => ?_) (fun c_31 => ?_)
      · refine j_iinc dX6_placeOf_39 rfl ?_
        dsimp only [st1, st2, unL, List.set]
        refine j_goto 19 dX6_placeOf_42 (by decide) ?_
        refine j_lle (lv' := [some o, some ax, some (vi idn), some (vr (some la)), some (vi (nI (i + 1)))]) (by simp [lle, nI_1]) ?_
        exact ih (i + 1) (by omega) ⟨by omega, lt_s hinv.2 c_31⟩
      · refine j_iload dX6_placeOf_34 rfl ?_
        refine j_iconst (v := 1) dX6_placeOf_36 (by decide) ?_
        refine j_iadd dX6_placeOf_37 ?_
        rw [li_1, nI_add]
        exact j_ireturn dX6_placeOf_38 rfl rfl ⟨rfl, by rw [pl1_at hinv.2 (Classical.not_not.mp c_31) hlt2]⟩

set_option maxRecDepth 20000 in
theorem c_placeOf0 {h : Hp} {a ra ca xa nr nc : Nat} (idn : Int32) (hs : Sh h a ra ca xa nr nc) : Con mX6_placeOf 1 0 0 [vr (some a), vi 0, vi idn] h (fun v u => u = h ∧ v = some (vi (nI (pl1 (hI h ra) idn (hN h ra))))) := by
  obtain ⟨k0, k1, k2, k3, k4, k5, k6, k7, k8, k9, l1, l2, l3, l4⟩ := id hs
  refine con_of rfl (Nat.le_of_ble_eq_true rfl) (by decide) ?_
  show J mX6_placeOf 1 0 0 _ 0 [some (vr (some a)), some (vi 0), some (vi idn), none, none] [] h
  refine j_iload_n dX6_placeOf_0 rfl ?_
  refine j_if_ne 11 dX6_placeOf_1 (by decide) (fun c_1 => ?_) (fun c_1 => ?_)
  · exact absurd rfl c_1
  · refine j_aload_n dX6_placeOf_4 rfl ?_
    refine j_getR dX6_placeOf_5 fl_X6_9 rfl (by first | assumption | (simp only [hK_pI, hK_pG, hK_pO]; assumption) | (simp [hK_nw, hK_pI, hK_pG, hK_pO, *]; done)) (by first | assumption | (simp only [hO_pI, hO_pG]; assumption) | (simp [hO_pO, hO_nw, hO_pI, hO_pG, *]; done)) ?_
    refine j_goto 15 dX6_placeOf_8 (by decide) ?_
    refine j_astore_n dX6_placeOf_15 (by decide) ?_
    dsimp only [st1, st2, unL, List.set]
    refine j_iconst (v := 0) dX6_placeOf_16 (by decide) ?_
    refine j_istore dX6_placeOf_17 (by decide) ?_
    dsimp only [st1, st2, unL, List.set]
    exact l_placeOf (by first | exact k4 | assumption) (by omega) (hN h ra + 1) 0 (by omega) ⟨by omega, lt_0⟩

set_option maxRecDepth 20000 in
theorem c_placeOf1 {h : Hp} {a ra ca xa nr nc : Nat} (idn : Int32) (hs : Sh h a ra ca xa nr nc) : Con mX6_placeOf 1 0 0 [vr (some a), vi 1, vi idn] h (fun v u => u = h ∧ v = some (vi (nI (pl1 (hI h ca) idn (hN h ca))))) := by
  obtain ⟨k0, k1, k2, k3, k4, k5, k6, k7, k8, k9, l1, l2, l3, l4⟩ := id hs
  refine con_of rfl (Nat.le_of_ble_eq_true rfl) (by decide) ?_
  show J mX6_placeOf 1 0 0 _ 0 [some (vr (some a)), some (vi 1), some (vi idn), none, none] [] h
  refine j_iload_n dX6_placeOf_0 rfl ?_
  refine j_if_ne 11 dX6_placeOf_1 (by decide) (fun c_1 => ?_) (fun c_1 => ?_)
  · refine j_aload_n dX6_placeOf_11 rfl ?_
    refine j_getR dX6_placeOf_12 fl_X6_15 rfl (by first | assumption | (simp only [hK_pI, hK_pG, hK_pO]; assumption) | (simp [hK_nw, hK_pI, hK_pG, hK_pO, *]; done)) (by first | assumption | (simp only [hO_pI, hO_pG]; assumption) | (simp [hO_pO, hO_nw, hO_pI, hO_pG, *]; done)) ?_
    refine j_astore_n dX6_placeOf_15 (by decide) ?_
    dsimp only [st1, st2, unL, List.set]
    refine j_iconst (v := 0) dX6_placeOf_16 (by decide) ?_
    refine j_istore dX6_placeOf_17 (by decide) ?_
    dsimp only [st1, st2, unL, List.set]
    exact l_placeOf (by first | exact k6 | assumption) (by omega) (hN h ca + 1) 0 (by omega) ⟨by omega, lt_0⟩
  · exact absurd (by decide) c_1

