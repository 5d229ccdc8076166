/-! ===== Sheet: rows, columns, cells ===== -/
def b2 (p : Prop) [Decidable p] : Int32 := if p then 1 else 0
theorem b2t {p : Prop} [Decidable p] (h : p) : b2 p = 1 := if_pos h
theorem b2f {p : Prop} [Decidable p] (h : ¬ p) : b2 p = 0 := if_neg h
/-- a sheet at a: nr rows by their numbers in ra, nc columns in ca, cells in xa -/
def Sh (h : Hp) (a ra ca xa nr nc : Nat) : Prop := hK h a = 7 ∧ hO h a 0 = some ra ∧ hO h a 1 = some ca ∧ hO h a 2 = some xa ∧ hK h ra = 15 ∧ hN h ra = nr ∧ hK h ca = 15 ∧ hN h ca = nc ∧ hK h xa = 19 ∧ hN h xa = nr * nc ∧ 1 ≤ nr ∧ nr ≤ 32 ∧ 1 ≤ nc ∧ nc ≤ 10
abbrev inSh (nr nc : Nat) (r c : Int32) : Prop := 1 ≤ r.toInt ∧ r.toInt ≤ nr ∧ 1 ≤ c.toInt ∧ c.toInt ≤ nc
theorem lt_i {x y : Int32} : x < y ↔ x.toInt < y.toInt := Int32.lt_iff_toInt_lt
theorem le_i {x y : Int32} : x ≤ y ↔ x.toInt ≤ y.toInt := Int32.le_iff_toInt_le
theorem eq_i {x y : Int32} : x = y ↔ x.toInt = y.toInt := Int32.toInt_inj.symm
set_option maxRecDepth 20000 in
theorem c_has {h : Hp} {a ra ca xa nr nc : Nat} (r c : Int32) (hs : Sh h a ra ca xa nr nc) : Con mX6_has 1 0 0 [vr (some a), vi r, vi c] h (fun v u => u = h ∧ v = some (vi (b2 (inSh nr nc r c)))) := by
  obtain ⟨k0, k1, k2, k3, k4, k5, k6, k7, k8, k9, l1, l2, l3, l4⟩ := hs
  subst k5 k7
  refine con_of rfl (Nat.le_of_ble_eq_true rfl) ?_
  show J mX6_has 1 0 0 _ 0 [some (vr (some a)), some (vi r), some (vi c)] [] h
  refine j_iload_n dX6_has_0 rfl ?_
  refine j_iconst (v := 1) dX6_has_1 (by decide) ?_
  refine j_icmp_lt 32 dX6_has_2 (by decide) (fun c_2 => ?_) (fun c_2 => ?_)
  · refine j_iconst (v := 0) dX6_has_32 (by decide) ?_
    exact j_ireturn dX6_has_33 rfl rfl (⟨rfl, by simp only [lt_i, le_i, nI_toInt (n := hN h ra) (by omega), nI_toInt (n := hN h ca) (by omega), Int32.reduceToInt] at *; first | (rw [b2t (by omega)]; done) | rw [b2f (by omega)]⟩)
  · refine j_iload_n dX6_has_5 rfl ?_
    refine j_aload_n dX6_has_6 rfl ?_
    refine j_getR dX6_has_7 fl_X6_9 rfl (by first | assumption | (simp only [hK_pI, hK_pG, hK_pO]; assumption) | (simp [hK_nw, hK_pI, hK_pG, hK_pO, *]; done)) (by first | assumption | (simp only [hO_pI, hO_pG]; assumption) | (simp [hO_pO, hO_nw, hO_pI, hO_pG, *]; done)) ?_
    refine j_alen dX6_has_10 (by first | assumption | (simp only [hK_pI, hK_pG, hK_pO]; assumption) | (simp [hK_nw, hK_pI, hK_pG, hK_pO, *]; done)) (by decide) ?_
    refine j_icmp_gt 32 dX6_has_11 (by decide) (fun c_11 => ?_) (fun c_11 => ?_)
    · refine j_iconst (v := 0) dX6_has_32 (by decide) ?_
      exact j_ireturn dX6_has_33 rfl rfl (⟨rfl, by simp only [lt_i, le_i, nI_toInt (n := hN h ra) (by omega), nI_toInt (n := hN h ca) (by omega), Int32.reduceToInt] at *; first | (rw [b2t (by omega)]; done) | rw [b2f (by omega)]⟩)
    · refine j_iload_n dX6_has_14 rfl ?_
      refine j_iconst (v := 1) dX6_has_15 (by decide) ?_
      refine j_icmp_lt 32 dX6_has_16 (by decide) (fun c_16 => ?_) (fun c_16 => ?_)
      · refine j_iconst (v := 0) dX6_has_32 (by decide) ?_
        exact j_ireturn dX6_has_33 rfl rfl (⟨rfl, by simp only [lt_i, le_i, nI_toInt (n := hN h ra) (by omega), nI_toInt (n := hN h ca) (by omega), Int32.reduceToInt] at *; first | (rw [b2t (by omega)]; done) | rw [b2f (by omega)]⟩)
      · refine j_iload_n dX6_has_19 rfl ?_
        refine j_aload_n dX6_has_20 rfl ?_
        refine j_getR dX6_has_21 fl_X6_15 rfl (by first | assumption | (simp only [hK_pI, hK_pG, hK_pO]; assumption) | (simp [hK_nw, hK_pI, hK_pG, hK_pO, *]; done)) (by first | assumption | (simp only [hO_pI, hO_pG]; assumption) | (simp [hO_pO, hO_nw, hO_pI, hO_pG, *]; done)) ?_
        refine j_alen dX6_has_24 (by first | assumption | (simp only [hK_pI, hK_pG, hK_pO]; assumption) | (simp [hK_nw, hK_pI, hK_pG, hK_pO, *]; done)) (by decide) ?_
        refine j_icmp_gt 32 dX6_has_25 (by decide) (fun c_25 => ?_) (fun c_25 => ?_)
        · refine j_iconst (v := 0) dX6_has_32 (by decide) ?_
          exact j_ireturn dX6_has_33 rfl rfl (⟨rfl, by simp only [lt_i, le_i, nI_toInt (n := hN h ra) (by omega), nI_toInt (n := hN h ca) (by omega), Int32.reduceToInt] at *; first | (rw [b2t (by omega)]; done) | rw [b2f (by omega)]⟩)
        · refine j_iconst (v := 1) dX6_has_28 (by decide) ?_
          refine j_goto 33 dX6_has_29 (by decide) ?_
          exact j_ireturn dX6_has_33 rfl rfl (⟨rfl, by simp only [lt_i, le_i, nI_toInt (n := hN h ra) (by omega), nI_toInt (n := hN h ca) (by omega), Int32.reduceToInt] at *; first | (rw [b2t (by omega)]; done) | rw [b2f (by omega)]⟩)

set_option maxRecDepth 20000 in
theorem c_line0 {h : Hp} {a ra ca xa nr nc : Nat} (hs : Sh h a ra ca xa nr nc) : Con mX6_line 1 0 0 [vr (some a), vi 0] h (fun v u => u = h ∧ v = some (vr (some ra))) := by
  obtain ⟨k0, k1, k2, k3, k4, k5, k6, k7, k8, k9, l1, l2, l3, l4⟩ := hs
  subst k5 k7
  refine con_of rfl (Nat.le_of_ble_eq_true rfl) ?_
  show J mX6_line 1 0 0 _ 0 [some (vr (some a)), some (vi 0)] [] h
  refine j_iload_n dX6_line_0 rfl ?_
  refine j_if_ne 11 dX6_line_1 (by decide) (fun c_1 => ?_) (fun c_1 => ?_)
  · refine j_aload_n dX6_line_11 rfl ?_
    refine j_getR dX6_line_12 fl_X6_15 rfl (by first | assumption | (simp only [hK_pI, hK_pG, hK_pO]; assumption) | (simp [hK_nw, hK_pI, hK_pG, hK_pO, *]; done)) (by first | assumption | (simp only [hO_pI, hO_pG]; assumption) | (simp [hO_pO, hO_nw, hO_pI, hO_pG, *]; done)) ?_
    exact j_areturn dX6_line_15 rfl rfl (⟨rfl, by first | rfl | exact absurd rfl c_1 | exact absurd c_1 (by decide)⟩)
  · refine j_aload_n dX6_line_4 rfl ?_
    refine j_getR dX6_line_5 fl_X6_9 rfl (by first | assumption | (simp only [hK_pI, hK_pG, hK_pO]; assumption) | (simp [hK_nw, hK_pI, hK_pG, hK_pO, *]; done)) (by first | assumption | (simp only [hO_pI, hO_pG]; assumption) | (simp [hO_pO, hO_nw, hO_pI, hO_pG, *]; done)) ?_
    refine j_goto 15 dX6_line_8 (by decide) ?_
    exact j_areturn dX6_line_15 rfl rfl (⟨rfl, by first | rfl | exact absurd rfl c_1 | exact absurd c_1 (by decide)⟩)

set_option maxRecDepth 20000 in
theorem c_line1 {h : Hp} {a ra ca xa nr nc : Nat} (hs : Sh h a ra ca xa nr nc) : Con mX6_line 1 0 0 [vr (some a), vi 1] h (fun v u => u = h ∧ v = some (vr (some ca))) := by
  obtain ⟨k0, k1, k2, k3, k4, k5, k6, k7, k8, k9, l1, l2, l3, l4⟩ := hs
  subst k5 k7
  refine con_of rfl (Nat.le_of_ble_eq_true rfl) ?_
  show J mX6_line 1 0 0 _ 0 [some (vr (some a)), some (vi 1)] [] h
  refine j_iload_n dX6_line_0 rfl ?_
  refine j_if_ne 11 dX6_line_1 (by decide) (fun c_1 => ?_) (fun c_1 => ?_)
  · refine j_aload_n dX6_line_11 rfl ?_
    refine j_getR dX6_line_12 fl_X6_15 rfl (by first | assumption | (simp only [hK_pI, hK_pG, hK_pO]; assumption) | (simp [hK_nw, hK_pI, hK_pG, hK_pO, *]; done)) (by first | assumption | (simp only [hO_pI, hO_pG]; assumption) | (simp [hO_pO, hO_nw, hO_pI, hO_pG, *]; done)) ?_
    exact j_areturn dX6_line_15 rfl rfl (⟨rfl, by first | rfl | exact absurd rfl c_1 | exact absurd c_1 (by decide)⟩)
  · refine j_aload_n dX6_line_4 rfl ?_
    refine j_getR dX6_line_5 fl_X6_9 rfl (by first | assumption | (simp only [hK_pI, hK_pG, hK_pO]; assumption) | (simp [hK_nw, hK_pI, hK_pG, hK_pO, *]; done)) (by first | assumption | (simp only [hO_pI, hO_pG]; assumption) | (simp [hO_pO, hO_nw, hO_pI, hO_pG, *]; done)) ?_
    refine j_goto 15 dX6_line_8 (by decide) ?_
    exact j_areturn dX6_line_15 rfl rfl (⟨rfl, by first | rfl | exact absurd rfl c_1 | exact absurd c_1 (by decide)⟩)

