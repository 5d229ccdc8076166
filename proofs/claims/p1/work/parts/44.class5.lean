/-! ===== the system: small methods ===== -/
theorem fcW {h : Hp} {b : Nat → Nat} {w xw : Nat} (fc : FC h b w xw) : hO h (b 0) 11 = some w := fc.2.2.2.2.2.2.2.1
theorem fcS {h : Hp} {b : Nat → Nat} {w xw : Nat} (fc : FC h b w xw) : Sh h w (b 36) (b 37) xw 8 6 := fc.2.2.2.2.2.2.2.2.2.2.1
theorem fcS0 {h : Hp} {b : Nat → Nat} {w xw : Nat} (fc : FC h b w xw) : Sh h (b 35) (b 36) (b 37) (b 38) 8 6 := ⟨fcK fc 35 rfl rfl, fcO fc 35 0 36 (by decide), fcO fc 35 1 37 (by decide), fcO fc 35 2 38 (by decide), fcK fc 36 rfl rfl, fcN fc 36 rfl rfl, fcK fc 37 rfl rfl, fcN fc 37 rfl rfl, fcK fc 38 rfl rfl, fcN fc 38 rfl rfl, by decide, by decide, by decide, by decide⟩
theorem fcX {h : Hp} {b : Nat → Nat} {w xw : Nat} (fc : FC h b w xw) (j : Nat) (hj : j < 48) : hO h xw j = none := fc.2.2.2.2.2.2.2.2.2.2.2.2.1 j hj
theorem fcX0 {h : Hp} {b : Nat → Nat} {w xw : Nat} (fc : FC h b w xw) (j : Nat) : hO h (b 38) j = none := fc.2.2.2.2.2.2.2.2.2.1 j
theorem fcCel {h : Hp} {b : Nat → Nat} {w xw : Nat} (fc : FC h b w xw) : Cel h xw (8 * 6) := fun k v hk hv => by rw [fcX fc k hk] at hv; cases hv
theorem fcLg {h : Hp} {b : Nat → Nat} {w xw : Nat} (fc : FC h b w xw) : Lg h (b 3) (b 18) (b 19) (b 20) (b 21) 1 := ⟨fcK fc 3 rfl rfl, ⟨fcO fc 3 0 18 (by decide), fcO fc 3 1 19 (by decide), fcO fc 3 2 20 (by decide), fcO fc 3 3 21 (by decide)⟩, ⟨fcK fc 18 rfl rfl, fcN fc 18 rfl rfl⟩, ⟨fcK fc 19 rfl rfl, fcN fc 19 rfl rfl⟩, ⟨fcK fc 20 rfl rfl, fcN fc 20 rfl rfl⟩, ⟨fcK fc 21 rfl rfl, fcN fc 21 rfl rfl⟩, fcI fc 3 4 1 (by decide), by decide⟩
theorem fcWn {h : Hp} {b : Nat → Nat} {w xw : Nat} (fc : FC h b w xw) (k : Nat) (hk : Nat.ble 39 k = false) : b k ≠ w ∧ b k ≠ xw := fc.2.2.2.2.2.2.2.2.2.2.2.2.2.1 k (Nat.lt_of_not_le (fun w => by rw [Nat.ble_eq_true_of_le w] at hk; cases hk))
/-- the cells of the object -/
def CC (b : Nat → Nat) (w xw c : Nat) : Prop := (∃ k, k < 39 ∧ c = b k) ∨ c = w ∨ c = xw
theorem ccB (b : Nat → Nat) (w xw : Nat) {k : Nat} (hk : Nat.ble 39 k = false) : CC b w xw (b k) := Or.inl ⟨k, Nat.lt_of_not_le (fun w => by rw [Nat.ble_eq_true_of_le w] at hk; cases hk), rfl⟩
theorem ccW (b : Nat → Nat) (w xw : Nat) : CC b w xw w := Or.inr (Or.inl rfl)
/-- what a call that may throw does: th is the number of what it throws by l, 0 if it answers r -/
def px (h : Hp) (b : Nat → Nat) (w xw : Nat) (l : List String) (th r : Int32) : Option Sv ⊕ String → Hp → Prop := fun o u => Fr (CC b w xw) h u ∧ (match o with
  | .inl v => th = 0 ∧ v = some (vi r)
  | .inr e => th ≠ 0 ∧ e = l.getD (th.toNatClampNeg - 1) "")
set_option maxRecDepth 20000 in
theorem c_isAxis {h : Hp} (x : Int32)  : Con mX11_isAxis 1 0 0 [vi x] h (fun v u => u = h ∧ v = some (vi (b2 (x = 0 ∨ x = 1)))) := by
  refine con_of rfl (Nat.le_of_ble_eq_true rfl) (by decide) ?_
  show J mX11_isAxis 1 0 0 _ 0 [some (vi x)] [] h
  refine j_iload_n dX11_isAxis_0 rfl ?_
  refine j_if_eq 9 dX11_isAxis_1 (by decide) (fun c_1 => ?_) (fun c_1 => ?_)
  · refine j_iconst (v := 1) dX11_isAxis_9 (by decide) ?_
    refine j_goto 14 dX11_isAxis_10 (by decide) ?_
    exact j_ireturn dX11_isAxis_14 rfl rfl (⟨rfl, by simp_all [b2]⟩)
  · refine j_iload_n dX11_isAxis_4 rfl ?_
    refine j_iconst (v := 1) dX11_isAxis_5 (by decide) ?_
    refine j_icmp_ne 13 dX11_isAxis_6 (by decide) (fun c_6 => ?_) (fun c_6 => ?_)
    · refine j_iconst (v := 0) dX11_isAxis_13 (by decide) ?_
      exact j_ireturn dX11_isAxis_14 rfl rfl (⟨rfl, by simp_all [b2]⟩)
    · refine j_iconst (v := 1) dX11_isAxis_9 (by decide) ?_
      refine j_goto 14 dX11_isAxis_10 (by decide) ?_
      exact j_ireturn dX11_isAxis_14 rfl rfl (⟨rfl, by simp_all [b2]⟩)

set_option maxRecDepth 20000 in
theorem c_mostOf {h : Hp} (x : Int32)  : Con mX11_mostOf 1 0 0 [vi x] h (fun v u => u = h ∧ v = some (vi (if x = 0 then 32 else 10))) := by
  refine con_of rfl (Nat.le_of_ble_eq_true rfl) (by decide) ?_
  show J mX11_mostOf 1 0 0 _ 0 [some (vi x)] [] h
  refine j_iload_n dX11_mostOf_0 rfl ?_
  refine j_if_ne 9 dX11_mostOf_1 (by decide) (fun c_1 => ?_) (fun c_1 => ?_)
  · refine j_bipush (v := 10) dX11_mostOf_9 (by decide) ?_
    exact j_ireturn dX11_mostOf_11 rfl rfl (⟨rfl, by first | (rw [if_pos (Classical.not_not.mp c_1)]; done) | rw [if_neg c_1]⟩)
  · refine j_bipush (v := 32) dX11_mostOf_4 (by decide) ?_
    refine j_goto 11 dX11_mostOf_6 (by decide) ?_
    exact j_ireturn dX11_mostOf_11 rfl rfl (⟨rfl, by first | (rw [if_pos (Classical.not_not.mp c_1)]; done) | rw [if_neg c_1]⟩)

set_option maxRecDepth 20000 in
theorem c_isBranch {h : Hp} (x : Int32)  : Con mX11_isBranch 1 0 0 [vi x] h (fun v u => u = h ∧ v = some (vi (b2 (0 ≤ x ∧ x ≤ 5)))) := by
  refine con_of rfl (Nat.le_of_ble_eq_true rfl) (by decide) ?_
  show J mX11_isBranch 1 0 0 _ 0 [some (vi x)] [] h
  refine j_iload_n dX11_isBranch_0 rfl ?_
  refine j_if_lt 14 dX11_isBranch_1 (by decide) (fun c_1 => ?_) (fun c_1 => ?_)
  · refine j_iconst (v := 0) dX11_isBranch_14 (by decide) ?_
    exact j_ireturn dX11_isBranch_15 rfl rfl (⟨rfl, by simp only [lt_i, le_i, Int32.reduceToInt] at *; first | (rw [b2t (by omega)]; done) | rw [b2f (by omega)]⟩)
  · refine j_iload_n dX11_isBranch_4 rfl ?_
    refine j_bipush (v := 6) dX11_isBranch_5 (by decide) ?_
    refine j_icmp_ge 14 dX11_isBranch_7 (by decide) (fun c_7 => ?_) (fun c_7 => ?_)
    · refine j_iconst (v := 0) dX11_isBranch_14 (by decide) ?_
      exact j_ireturn dX11_isBranch_15 rfl rfl (⟨rfl, by simp only [lt_i, le_i, Int32.reduceToInt] at *; first | (rw [b2t (by omega)]; done) | rw [b2f (by omega)]⟩)
    · refine j_iconst (v := 1) dX11_isBranch_10 (by decide) ?_
      refine j_goto 15 dX11_isBranch_11 (by decide) ?_
      exact j_ireturn dX11_isBranch_15 rfl rfl (⟨rfl, by simp only [lt_i, le_i, Int32.reduceToInt] at *; first | (rw [b2t (by omega)]; done) | rw [b2f (by omega)]⟩)

set_option maxRecDepth 20000 in
theorem d_head {h : Hp} {b : Nat → Nat} {w xw : Nat} (fc : FC h b w xw) : Con mX11_head 1 0 0 [vr (some (b 0))] h (fun v u => u = h ∧ v = some (vi 0)) := by
  refine con_of rfl (Nat.le_of_ble_eq_true rfl) (by decide) ?_
  show J mX11_head 1 0 0 _ 0 [some (vr (some (b 0)))] [] h
  refine j_aload_n dX11_head_0 rfl ?_
  refine j_getR dX11_head_1 fl_X11_70 rfl (fcK fc 0 rfl rfl) (fcO fc 0 8 9 (by decide)) ?_
  refine j_aload_n dX11_head_4 rfl ?_
  refine j_getI dX11_head_5 fl_X11_246 rfl (fcK fc 0 rfl rfl) ?_
  rw [fcI fc 0 12 (0) (by decide)]
  refine j_iald 0 dX11_head_8 (fcK fc 9 rfl rfl) rfl (by rw [fcN fc 9 (c := 6) rfl rfl]; decide) (by rw [fcN fc 9 (c := 6) rfl rfl]; decide) ?_
  rw [fcI fc 9 0 0 (by decide)]
  exact j_ireturn dX11_head_9 rfl rfl (⟨rfl, rfl⟩)

def shV (h : Hp) (sa n : Nat) (x : Int32) : Option Nat := if 0 ≤ x ∧ x < nI n then hO h sa x.toNatClampNeg else none
set_option maxRecDepth 20000 in
theorem c_logAt {h : Hp} {la sa pa oa aa n : Nat} (x : Int32) (hg : Lg h la sa pa oa aa n) : Con mX2_at 1 0 0 [vr (some la), vi x] h (fun v u => u = h ∧ v = some (vr (shV h sa n x))) := by
  obtain ⟨k1, ⟨o1, o2, o3, o4⟩, ⟨k2, k3⟩, ⟨k4, k5⟩, ⟨k6, k7⟩, ⟨k8, k9⟩, hc, hn⟩ := id hg
  refine con_of rfl (Nat.le_of_ble_eq_true rfl) (by decide) ?_
  show J mX2_at 1 0 0 _ 0 [some (vr (some la)), some (vi x)] [] h
  refine j_iload_n dX2_at_0 rfl ?_
  refine j_if_lt 21 dX2_at_1 (by decide) (fun c_1 => ?_) (fun c_1 => ?_)
  · refine j_null dX2_at_21 ?_
    first | exact j_areturn dX2_at_22 rfl rfl ⟨rfl, by rw [shV, if_pos ⟨nI_pos' (by omega), nI_lt hjn (by omega)⟩, nI_clamp (by omega)]⟩ | exact j_areturn dX2_at_22 rfl rfl ⟨rfl, by rw [shV, if_neg (by simp only [lt_i, le_i, Int32.reduceToInt] at *; omega)]⟩
  · refine j_iload_n dX2_at_4 rfl ?_
    refine j_aload_n dX2_at_5 rfl ?_
    refine j_getI dX2_at_6 fl_X2_28 rfl (by first | assumption | (simp only [hK_pI, hK_pG, hK_pO]; assumption) | (simp [hK_nw, hK_pI, hK_pG, hK_pO, *]; done)) ?_
    rw [hc]
    refine j_icmp_ge 21 dX2_at_9 (by decide) (fun c_9 => ?_) (fun c_9 => ?_)
    · refine j_null dX2_at_21 ?_
      first | exact j_areturn dX2_at_22 rfl rfl ⟨rfl, by rw [shV, if_pos ⟨nI_pos' (by omega), nI_lt hjn (by omega)⟩, nI_clamp (by omega)]⟩ | exact j_areturn dX2_at_22 rfl rfl ⟨rfl, by rw [shV, if_neg (by simp only [lt_i, le_i, Int32.reduceToInt] at *; omega)]⟩
    · obtain ⟨j, hj, rfl⟩ := nI_of (x := x) c_1
      have hjn : j < n := by rw [nI_leI (by omega) (by omega)] at c_9; omega
      refine j_aload_n dX2_at_12 rfl ?_
      refine j_getR dX2_at_13 fl_X2_11 rfl (by first | assumption | (simp only [hK_pI, hK_pG, hK_pO]; assumption) | (simp [hK_nw, hK_pI, hK_pG, hK_pO, *]; done)) (by first | assumption | (simp only [hO_pI, hO_pG]; assumption) | (simp [hO_pO, hO_nw, hO_pI, hO_pG, *]; done)) ?_
      refine j_iload_n dX2_at_16 rfl ?_
      refine j_aald (t := 7) j dX2_at_17 k2 (by decide) (by decide) rfl (by omega) (by omega) ?_
      refine j_goto 22 dX2_at_18 (by decide) ?_
      first | exact j_areturn dX2_at_22 rfl rfl ⟨rfl, by rw [shV, if_pos ⟨nI_pos' (by omega), nI_lt hjn (by omega)⟩, nI_clamp (by omega)]⟩ | exact j_areturn dX2_at_22 rfl rfl ⟨rfl, by rw [shV, if_neg (by simp only [lt_i, le_i, Int32.reduceToInt] at *; omega)]⟩

theorem shV_0 {h : Hp} {b : Nat → Nat} {w xw : Nat} (fc : FC h b w xw) : shV h (b 18) 1 0 = some (b 35) := by rw [shV, if_pos (by decide)]; exact fcO fc 18 0 35 (by decide)
theorem shV_n {h : Hp} {sa : Nat} {x : Int32} (hx : x ≠ 0) : shV h sa 1 x = none := by
  rw [shV, if_neg]
  rintro ⟨h1, h2⟩
  exact hx (by rw [eq_i]; simp only [le_i, lt_i, Int32.reduceToInt, show (nI 1).toInt = 1 from rfl] at *; omega)
/-- the sheet that is asked for -/
def shF (b : Nat → Nat) (w : Nat) (x : Int32) : Option Nat := if x = -1 then some w else if x = 0 then some (b 35) else none
theorem shF_V {h : Hp} {b : Nat → Nat} {w xw : Nat} (fc : FC h b w xw) {x : Int32} (hx : x ≠ -1) : shF b w x = shV h (b 18) 1 x := by
  rw [shF, if_neg hx]
  by_cases q : x = 0
  · rw [if_pos q, q, shV_0 fc]
  · rw [if_neg q, shV_n q]
set_option maxRecDepth 20000 in
theorem d_merAt {h : Hp} {ma : Nat} (x : Int32) (k1 : hK h ma = 4) (hc : hI h ma 2 = 0) : Con mX3_at 1 0 0 [vr (some ma), vi x] h (fun v u => u = h ∧ v = some (vr none)) := by
  refine con_of rfl (Nat.le_of_ble_eq_true rfl) (by decide) ?_
  show J mX3_at 1 0 0 _ 0 [some (vr (some ma)), some (vi x)] [] h
  refine j_iload_n dX3_at_0 rfl ?_
  refine j_if_lt 21 dX3_at_1 (by decide) (fun c_1 => ?_) (fun c_1 => ?_)
  · refine j_null dX3_at_21 ?_
    exact j_areturn dX3_at_22 rfl rfl (⟨rfl, rfl⟩)
  · refine j_iload_n dX3_at_4 rfl ?_
    refine j_aload_n dX3_at_5 rfl ?_
    refine j_getI dX3_at_6 fl_X3_21 rfl (by first | assumption | (simp only [hK_pI, hK_pG, hK_pO]; assumption) | (simp [hK_nw, hK_pI, hK_pG, hK_pO, *]; done)) ?_
    rw [hc]
    refine j_icmp_ge 21 dX3_at_9 (by decide) (fun c_9 => ?_) (fun c_9 => ?_)
    · refine j_null dX3_at_21 ?_
      exact j_areturn dX3_at_22 rfl rfl (⟨rfl, rfl⟩)
    · exact absurd (by simp only [lt_i, le_i, Int32.reduceToInt] at *; omega) c_9

set_option maxRecDepth 20000 in
theorem d_unsettled {h : Hp} {ma : Nat} (k1 : hK h ma = 4) (hc : hI h ma 2 = 0) : Con mX3_unsettled 1 0 0 [vr (some ma)] h (fun v u => u = h ∧ v = some (vi 0)) := by
  refine con_of rfl (Nat.le_of_ble_eq_true rfl) (by decide) ?_
  show J mX3_unsettled 1 0 0 _ 0 [some (vr (some ma)), none, none] [] h
  refine j_iconst (v := 0) dX3_unsettled_0 (by decide) ?_
  refine j_istore_n dX3_unsettled_1 (by decide) ?_
  dsimp only [st1, st2, unL, List.set]
  refine j_iconst (v := 0) dX3_unsettled_2 (by decide) ?_
  refine j_istore_n dX3_unsettled_3 (by decide) ?_
  dsimp only [st1, st2, unL, List.set]
  refine j_iload_n dX3_unsettled_4 rfl ?_
  refine j_aload_n dX3_unsettled_5 rfl ?_
  refine j_getI dX3_unsettled_6 fl_X3_21 rfl (by first | assumption | (simp only [hK_pI, hK_pG, hK_pO]; assumption) | (simp [hK_nw, hK_pI, hK_pG, hK_pO, *]; done)) ?_
  refine j_icmp_ge 38 dX3_unsettled_9 (by decide) (fun c_9 => ?_) (fun c_9 => ?_)
  · refine j_iload_n dX3_unsettled_38 rfl ?_
    exact j_ireturn dX3_unsettled_39 rfl rfl (⟨rfl, rfl⟩)
  · exact absurd (by rw [hc]; decide) c_9

set_option maxRecDepth 20000 in
theorem c_partsOfN {h : Hp}  : Con mX11_partsOf 1 0 0 [vr none] h (fun v u => u = h ∧ v = some (vi 0)) := by
  refine con_of rfl (Nat.le_of_ble_eq_true rfl) (by decide) ?_
  show J mX11_partsOf 1 0 0 _ 0 [some (vr none)] [] h
  refine j_aload_n dX11_partsOf_0 rfl ?_
  refine j_ifnull 12 dX11_partsOf_1 (by decide) (fun c_1 => ?_) (fun c_1 => ?_)
  · refine j_iconst (v := 0) dX11_partsOf_12 (by decide) ?_
    exact j_ireturn dX11_partsOf_13 rfl rfl (⟨rfl, rfl⟩)
  · exact absurd rfl c_1

set_option maxRecDepth 20000 in
theorem c_isFormulaN {h : Hp}  : Con mX11_isFormula 1 0 0 [vr none] h (fun v u => u = h ∧ v = some (vi 0)) := by
  refine con_of rfl (Nat.le_of_ble_eq_true rfl) (by decide) ?_
  show J mX11_isFormula 1 0 0 _ 0 [some (vr none)] [] h
  refine j_aload_n dX11_isFormula_0 rfl ?_
  refine j_ifnull 16 dX11_isFormula_1 (by decide) (fun c_1 => ?_) (fun c_1 => ?_)
  · refine j_iconst (v := 0) dX11_isFormula_16 (by decide) ?_
    exact j_ireturn dX11_isFormula_17 rfl rfl (⟨rfl, rfl⟩)
  · exact absurd rfl c_1

set_option maxRecDepth 20000 in
theorem c_alikeN {h : Hp}  : Con mX1_alike 1 0 0 [vr none, vr none] h (fun v u => u = h ∧ v = some (vi 1)) := by
  refine con_of rfl (Nat.le_of_ble_eq_true rfl) (by decide) ?_
  show J mX1_alike 1 0 0 _ 0 [some (vr none), some (vr none), none] [] h
  refine j_aload_n dX1_alike_0 rfl ?_
  refine j_ifnull 13 dX1_alike_1 (by decide) (fun c_1 => ?_) (fun c_1 => ?_)
  · refine j_aload_n dX1_alike_13 rfl ?_
    refine j_aload_n dX1_alike_14 rfl ?_
    refine j_acmp_ne 22 dX1_alike_15 (by decide) (fun c_15 => ?_) (fun c_15 => ?_)
    · exact absurd c_15 (fun e => e rfl)
    · refine j_iconst (v := 1) dX1_alike_18 (by decide) ?_
      refine j_goto 23 dX1_alike_19 (by decide) ?_
      exact j_ireturn dX1_alike_23 rfl rfl (⟨rfl, rfl⟩)
  · exact absurd rfl c_1

set_option maxRecDepth 20000 in
theorem d_sheetOf {h : Hp} {b : Nat → Nat} {w xw : Nat} (x : Int32) (fc : FC h b w xw) : Con mX11_sheetOf 2 0 0 [vr (some (b 0)), vi x] h (fun v u => u = h ∧ v = some (vr (shF b w x))) := by
  refine con_of rfl (Nat.le_of_ble_eq_true rfl) (by decide) ?_
  show J mX11_sheetOf 2 0 0 _ 0 [some (vr (some (b 0))), some (vi x)] [] h
  refine j_iload_n dX11_sheetOf_0 rfl ?_
  refine j_iconst (v := -1) dX11_sheetOf_1 (by decide) ?_
  refine j_icmp_ne 12 dX11_sheetOf_2 (by decide) (fun c_2 => ?_) (fun c_2 => ?_)
  · refine j_aload_n dX11_sheetOf_12 rfl ?_
    refine j_getR dX11_sheetOf_13 fl_X11_26 rfl (fcK fc 0 rfl rfl) (fcO fc 0 2 3 (by decide)) ?_
    refine j_iload_n dX11_sheetOf_16 rfl ?_
    refine j_callV1 dX11_sheetOf_17 vl_X11_269 (c_logAt x (fcLg fc)) (fcK fc 3 rfl rfl) rfl (by decide) (by omega) (by omega) (Nat.le_of_ble_eq_true rfl) (fun v_17 u_17 p_17 => ?_)
    obtain ⟨e_17, rfl⟩ := p_17
    rw [e_17]
    clear e_17
    dsimp only [rs]
    first | exact j_areturn dX11_sheetOf_20 rfl rfl ⟨rfl, by rw [shF, if_pos (Classical.not_not.mp c_2)]⟩ | exact j_areturn dX11_sheetOf_20 rfl rfl ⟨rfl, by rw [shF_V fc c_2]⟩
  · refine j_aload_n dX11_sheetOf_5 rfl ?_
    refine j_getR dX11_sheetOf_6 fl_X11_104 rfl (fcK fc 0 rfl rfl) (fcW fc) ?_
    refine j_goto 20 dX11_sheetOf_9 (by decide) ?_
    first | exact j_areturn dX11_sheetOf_20 rfl rfl ⟨rfl, by rw [shF, if_pos (Classical.not_not.mp c_2)]⟩ | exact j_areturn dX11_sheetOf_20 rfl rfl ⟨rfl, by rw [shF_V fc c_2]⟩

theorem shF_S {h : Hp} {b : Nat → Nat} {w xw : Nat} {x : Int32} {a : Nat} (fc : FC h b w xw) (e : shF b w x = some a) : ∃ xa, Sh h a (b 36) (b 37) xa 8 6 ∧ (∀ j, j < 48 → hO h xa j = none) ∧ hO h a 3 = none ∧ (x = -1 ∨ x = 0) := by
  rw [shF] at e
  by_cases q : x = -1
  · rw [if_pos q] at e; cases e; exact ⟨xw, fcS fc, fcX fc, fc.2.2.2.2.2.2.2.2.2.2.2.1, Or.inl q⟩
  · rw [if_neg q] at e
    by_cases q0 : x = 0
    · rw [if_pos q0] at e; cases e; exact ⟨b 38, fcS0 fc, fun j _ => fcX0 fc j, fc.2.2.2.2.2.2.2.2.1, Or.inr q0⟩
    · rw [if_neg q0] at e; cases e
theorem shF_N {b : Nat → Nat} {w : Nat} {x : Int32} (e : shF b w x = none) : ¬ (-1 ≤ x ∧ x ≤ 0) := by
  rw [shF] at e
  by_cases q : x = -1
  · rw [if_pos q] at e; cases e
  · rw [if_neg q] at e
    by_cases q0 : x = 0
    · rw [if_pos q0] at e; cases e
    · rw [eq_i] at q q0; simp only [le_i, Int32.reduceToInt, show ((-1 : Int32)).toInt = -1 from rfl] at *; omega
set_option maxRecDepth 20000 in
theorem d_isCell {h : Hp} {b : Nat → Nat} {w xw : Nat} (x y z : Int32) (fc : FC h b w xw) : Con mX11_isCell 3 0 0 [vr (some (b 0)), vi x, vi y, vi z] h (fun v u => u = h ∧ v = some (vi (b2 (okA x y z)))) := by
  refine con_of rfl (Nat.le_of_ble_eq_true rfl) (by decide) ?_
  show J mX11_isCell 3 0 0 _ 0 [some (vr (some (b 0))), some (vi x), some (vi y), some (vi z), none] [] h
  refine j_aload_n dX11_isCell_0 rfl ?_
  refine j_iload_n dX11_isCell_1 rfl ?_
  refine j_callV1 dX11_isCell_2 vl_X11_312 (d_sheetOf x fc) (fcK fc 0 rfl rfl) rfl (by decide) (by omega) (by omega) (Nat.le_of_ble_eq_true rfl) (fun v_2 u_2 p_2 => ?_)
  obtain ⟨e_, rfl⟩ := p_2
  rw [e_]
  clear e_
  rcases hsf : shF b w x with _ | a
  · dsimp only [rs]
    refine j_astore dX11_isCell_5 (by decide) ?_
    dsimp only [st1, st2, unL, List.set]
    refine j_aload dX11_isCell_7 rfl ?_
    refine j_ifnull 26 dX11_isCell_9 (by decide) (fun c_9 => ?_) (fun c_9 => ?_)
    · refine j_iconst (v := 0) dX11_isCell_26 (by decide) ?_
      exact j_ireturn dX11_isCell_27 rfl rfl (⟨rfl, by rw [b2f (fun w => shF_N hsf w.1)]⟩)
    · exact absurd rfl c_9
  obtain ⟨xa, hs, -, -, hx01⟩ := shF_S fc hsf
  dsimp only [rs]
  refine j_astore dX11_isCell_5 (by decide) ?_
  dsimp only [st1, st2, unL, List.set]
  refine j_aload dX11_isCell_7 rfl ?_
  refine j_ifnull 26 dX11_isCell_9 (by decide) (fun c_9 => ?_) (fun c_9 => ?_)
  · exact absurd c_9 (fun e => by cases e)
  · refine j_aload dX11_isCell_12 rfl ?_
    refine j_iload_n dX11_isCell_14 rfl ?_
    refine j_iload_n dX11_isCell_15 rfl ?_
    refine j_callV2 dX11_isCell_16 vl_X11_113 (c_has _ _ hs) (by first | exact hs.1 | exact fcK fc 0 rfl rfl) rfl (by decide) (by omega) (by omega) (Nat.le_of_ble_eq_true rfl) (fun v_16 u_16 p_16 => ?_)
    obtain ⟨e_16, rfl⟩ := p_16
    rw [e_16]
    clear e_16
    dsimp only [rs]
    refine j_if_eq 26 dX11_isCell_19 (by decide) (fun c_19 => ?_) (fun c_19 => ?_)
    · refine j_iconst (v := 0) dX11_isCell_26 (by decide) ?_
      exact j_ireturn dX11_isCell_27 rfl rfl (⟨rfl, by
          have q1 : -1 ≤ x ∧ x ≤ 0 := by rcases hx01 with rfl | rfl <;> decide
          first | (rw [b2t (show okA x y z from ⟨q1, b2_nn.mp c_19⟩)]; done) | rw [b2f (fun w => b2_0.mp c_19 w.2)]⟩)
    · refine j_iconst (v := 1) dX11_isCell_22 (by decide) ?_
      refine j_goto 27 dX11_isCell_23 (by decide) ?_
      exact j_ireturn dX11_isCell_27 rfl rfl (⟨rfl, by
          have q1 : -1 ≤ x ∧ x ≤ 0 := by rcases hx01 with rfl | rfl <;> decide
          first | (rw [b2t (show okA x y z from ⟨q1, b2_nn.mp c_19⟩)]; done) | rw [b2f (fun w => b2_0.mp c_19 w.2)]⟩)

set_option maxRecDepth 20000 in
theorem l_isLikeC {h : Hp} {a a2 ra ca xa xa2 nr nc : Nat} (hs : Sh h a ra ca xa nr nc) (hs2 : Sh h a2 ra ca xa2 nr nc) (z1 : ∀ j, j < nr * nc → hO h xa j = none) (z2 : ∀ j, j < nr * nc → hO h xa2 j = none) : ∀ (n : Nat) (i : Nat), nr * nc - i < n → (i ≤ nr * nc) → J mX6_isLike 2 0 0 (nx (fun v u => u = h ∧ v = some (vi 1))) 98 [some (vr (some a)), some (vr (some a2)), some (vi (nI i))] [] h := by
  intro n
  induction n with
  | zero => intro i hlt; omega
  | succ n ih =>
    intro i hlt hinv
    obtain ⟨k0, k1, k2, k3, k4, k5, k6, k7, k8, k9, l1, l2, l3, l4⟩ := id hs
    obtain ⟨m0, m1, m2, m3, m4, m5, m6, m7, m8, m9, -⟩ := id hs2
    have hle := rc_le l2 l4
    refine j_iload_n dX6_isLike_98 rfl ?_
    refine j_aload_n dX6_isLike_99 rfl ?_
    refine j_getR dX6_isLike_100 fl_X6_20 rfl k0 k3 ?_
    refine j_alen dX6_isLike_103 (t := 5) k8 (by decide) ?_
    rw [k9]
    refine j_icmp_ge 133 dX6_isLike_104 (by decide) (fun c_104 => ?_) (fun c_104 => ?_)
    · refine j_iconst (v := 1) dX6_isLike_133 (by decide) ?_
      exact j_ireturn dX6_isLike_134 rfl rfl (⟨rfl, rfl⟩)
    · have hlt2 : i < nr * nc := by rw [nI_leI (by omega) (by omega)] at c_104; omega
      refine j_aload_n dX6_isLike_107 rfl ?_
      refine j_getR dX6_isLike_108 fl_X6_20 rfl k0 k3 ?_
      refine j_iload_n dX6_isLike_111 rfl ?_
      refine j_aald (t := 5) i dX6_isLike_112 k8 (by decide) (by decide) rfl (by omega) (by omega) ?_
      rw [z1 i hlt2]
      refine j_aload_n dX6_isLike_113 rfl ?_
      refine j_getR dX6_isLike_114 fl_X6_20 rfl m0 m3 ?_
      refine j_iload_n dX6_isLike_117 rfl ?_
      refine j_aald (t := 5) i dX6_isLike_118 m8 (by decide) (by decide) rfl (by omega) (by omega) ?_
      rw [z2 i hlt2]
      refine j_callS2 dX6_isLike_119 sl_X6_47 c_alikeN rfl (by decide) (by omega) (by omega) (Nat.le_of_ble_eq_true rfl) (fun v_119 u_119 p_119 => ?_)
      obtain ⟨e_119, rfl⟩ := p_119
      rw [e_119]
      clear e_119
      dsimp only [rs]
      refine j_if_ne 127 dX6_isLike_122 (by decide) (fun c_122 => ?_) (fun c_122 => ?_)
      · refine j_iinc dX6_isLike_127 rfl ?_
        dsimp only [st1, st2, unL, List.set]
        refine j_goto 98 dX6_isLike_130 (by decide) ?_
        refine j_lle (lv' := [some (vr (some a)), some (vr (some a2)), some (vi (nI (i + 1)))]) (by simp [lle, nI_1]) ?_
        exact ih (i + 1) (by omega) (by omega)
      · exact absurd (by decide) c_122

set_option maxRecDepth 20000 in
theorem l_isLikeB {h : Hp} {a a2 ra ca xa xa2 nr nc : Nat} (hs : Sh h a ra ca xa nr nc) (hs2 : Sh h a2 ra ca xa2 nr nc) (z1 : ∀ j, j < nr * nc → hO h xa j = none) (z2 : ∀ j, j < nr * nc → hO h xa2 j = none) : ∀ (n : Nat) (i : Nat), nc - i < n → (i ≤ nc) → J mX6_isLike 2 0 0 (nx (fun v u => u = h ∧ v = some (vi 1))) 64 [some (vr (some a)), some (vr (some a2)), some (vi (nI i))] [] h := by
  intro n
  induction n with
  | zero => intro i hlt; omega
  | succ n ih =>
    intro i hlt hinv
    obtain ⟨k0, k1, k2, k3, k4, k5, k6, k7, k8, k9, l1, l2, l3, l4⟩ := id hs
    obtain ⟨m0, m1, m2, m3, m4, m5, m6, m7, m8, m9, -⟩ := id hs2
    have hle := rc_le l2 l4
    refine j_iload_n dX6_isLike_64 rfl ?_
    refine j_aload_n dX6_isLike_65 rfl ?_
    refine j_getR dX6_isLike_66 fl_X6_15 rfl k0 k2 ?_
    refine j_alen dX6_isLike_69 (t := 1) k6 (by decide) ?_
    rw [k7]
    refine j_icmp_ge 96 dX6_isLike_70 (by decide) (fun c_70 => ?_) (fun c_70 => ?_)
    · refine j_iconst (v := 0) dX6_isLike_96 (by decide) ?_
      refine j_istore_n dX6_isLike_97 (by decide) ?_
      dsimp only [st1, st2, unL, List.set]
      refine j_lle (lv' := [some (vr (some a)), some (vr (some a2)), some (vi (nI 0))]) (by simp [lle]; rfl) ?_
      exact l_isLikeC hs hs2 z1 z2 (nr * nc + 1) 0 (by omega) (by omega)
    · have hlt2 : i < nc := by rw [nI_leI (by omega) (by omega)] at c_70; omega
      refine j_aload_n dX6_isLike_73 rfl ?_
      refine j_getR dX6_isLike_74 fl_X6_15 rfl k0 k2 ?_
      refine j_iload_n dX6_isLike_77 rfl ?_
      refine j_iald i dX6_isLike_78 k6 rfl (by omega) (by omega) ?_
      refine j_aload_n dX6_isLike_79 rfl ?_
      refine j_getR dX6_isLike_80 fl_X6_15 rfl m0 m2 ?_
      refine j_iload_n dX6_isLike_83 rfl ?_
      refine j_iald i dX6_isLike_84 k6 rfl (by omega) (by omega) ?_
      refine j_icmp_eq 90 dX6_isLike_85 (by decide) (fun c_85 => ?_) (fun c_85 => ?_)
      · refine j_iinc dX6_isLike_90 rfl ?_
        dsimp only [st1, st2, unL, List.set]
        refine j_goto 64 dX6_isLike_93 (by decide) ?_
        refine j_lle (lv' := [some (vr (some a)), some (vr (some a2)), some (vi (nI (i + 1)))]) (by simp [lle, nI_1]) ?_
        exact ih (i + 1) (by omega) (by omega)
      · exact absurd rfl c_85

set_option maxRecDepth 20000 in
theorem l_isLikeA {h : Hp} {a a2 ra ca xa xa2 nr nc : Nat} (hs : Sh h a ra ca xa nr nc) (hs2 : Sh h a2 ra ca xa2 nr nc) (z1 : ∀ j, j < nr * nc → hO h xa j = none) (z2 : ∀ j, j < nr * nc → hO h xa2 j = none) : ∀ (n : Nat) (i : Nat), nr - i < n → (i ≤ nr) → J mX6_isLike 2 0 0 (nx (fun v u => u = h ∧ v = some (vi 1))) 30 [some (vr (some a)), some (vr (some a2)), some (vi (nI i))] [] h := by
  intro n
  induction n with
  | zero => intro i hlt; omega
  | succ n ih =>
    intro i hlt hinv
    obtain ⟨k0, k1, k2, k3, k4, k5, k6, k7, k8, k9, l1, l2, l3, l4⟩ := id hs
    obtain ⟨m0, m1, m2, m3, m4, m5, m6, m7, m8, m9, -⟩ := id hs2
    have hle := rc_le l2 l4
    refine j_iload_n dX6_isLike_30 rfl ?_
    refine j_aload_n dX6_isLike_31 rfl ?_
    refine j_getR dX6_isLike_32 fl_X6_9 rfl k0 k1 ?_
    refine j_alen dX6_isLike_35 (t := 1) k4 (by decide) ?_
    rw [k5]
    refine j_icmp_ge 62 dX6_isLike_36 (by decide) (fun c_36 => ?_) (fun c_36 => ?_)
    · refine j_iconst (v := 0) dX6_isLike_62 (by decide) ?_
      refine j_istore_n dX6_isLike_63 (by decide) ?_
      dsimp only [st1, st2, unL, List.set]
      refine j_lle (lv' := [some (vr (some a)), some (vr (some a2)), some (vi (nI 0))]) (by simp [lle]; rfl) ?_
      exact l_isLikeB hs hs2 z1 z2 (nc + 1) 0 (by omega) (by omega)
    · have hlt2 : i < nr := by rw [nI_leI (by omega) (by omega)] at c_36; omega
      refine j_aload_n dX6_isLike_39 rfl ?_
      refine j_getR dX6_isLike_40 fl_X6_9 rfl k0 k1 ?_
      refine j_iload_n dX6_isLike_43 rfl ?_
      refine j_iald i dX6_isLike_44 k4 rfl (by omega) (by omega) ?_
      refine j_aload_n dX6_isLike_45 rfl ?_
      refine j_getR dX6_isLike_46 fl_X6_9 rfl m0 m1 ?_
      refine j_iload_n dX6_isLike_49 rfl ?_
      refine j_iald i dX6_isLike_50 k4 rfl (by omega) (by omega) ?_
      refine j_icmp_eq 56 dX6_isLike_51 (by decide) (fun c_51 => ?_) (fun c_51 => ?_)
      · refine j_iinc dX6_isLike_56 rfl ?_
        dsimp only [st1, st2, unL, List.set]
        refine j_goto 30 dX6_isLike_59 (by decide) ?_
        refine j_lle (lv' := [some (vr (some a)), some (vr (some a2)), some (vi (nI (i + 1)))]) (by simp [lle, nI_1]) ?_
        exact ih (i + 1) (by omega) (by omega)
      · exact absurd rfl c_51

set_option maxRecDepth 20000 in
theorem c_isLikeE {h : Hp} {a a2 ra ca xa xa2 nr nc : Nat} (hs : Sh h a ra ca xa nr nc) (hs2 : Sh h a2 ra ca xa2 nr nc) (z1 : ∀ j, j < nr * nc → hO h xa j = none) (z2 : ∀ j, j < nr * nc → hO h xa2 j = none) : Con mX6_isLike 2 0 0 [vr (some a), vr (some a2)] h (fun v u => u = h ∧ v = some (vi 1)) := by
  obtain ⟨k0, k1, k2, k3, k4, k5, k6, k7, k8, k9, l1, l2, l3, l4⟩ := id hs
  obtain ⟨m0, m1, m2, m3, m4, m5, m6, m7, m8, m9, -⟩ := id hs2
  refine con_of rfl (Nat.le_of_ble_eq_true rfl) (by decide) ?_
  show J mX6_isLike 2 0 0 _ 0 [some (vr (some a)), some (vr (some a2)), none] [] h
  refine j_aload_n dX6_isLike_0 rfl ?_
  refine j_getR dX6_isLike_1 fl_X6_9 rfl k0 k1 ?_
  refine j_alen dX6_isLike_4 (t := 1) k4 (by decide) ?_
  rw [k5]
  refine j_aload_n dX6_isLike_5 rfl ?_
  refine j_getR dX6_isLike_6 fl_X6_9 rfl m0 m1 ?_
  refine j_alen dX6_isLike_9 (t := 1) k4 (by decide) ?_
  rw [k5]
  refine j_icmp_ne 26 dX6_isLike_10 (by decide) (fun c_10 => ?_) (fun c_10 => ?_)
  · exact absurd c_10 (fun e => e rfl)
  · refine j_aload_n dX6_isLike_13 rfl ?_
    refine j_getR dX6_isLike_14 fl_X6_15 rfl k0 k2 ?_
    refine j_alen dX6_isLike_17 (t := 1) k6 (by decide) ?_
    rw [k7]
    refine j_aload_n dX6_isLike_18 rfl ?_
    refine j_getR dX6_isLike_19 fl_X6_15 rfl m0 m2 ?_
    refine j_alen dX6_isLike_22 (t := 1) k6 (by decide) ?_
    rw [k7]
    refine j_icmp_eq 28 dX6_isLike_23 (by decide) (fun c_23 => ?_) (fun c_23 => ?_)
    · refine j_iconst (v := 0) dX6_isLike_28 (by decide) ?_
      refine j_istore_n dX6_isLike_29 (by decide) ?_
      dsimp only [st1, st2, unL, List.set]
      refine j_lle (lv' := [some (vr (some a)), some (vr (some a2)), some (vi (nI 0))]) (by simp [lle]; rfl) ?_
      exact l_isLikeA hs hs2 z1 z2 (nr + 1) 0 (by omega) (by omega)
    · exact absurd rfl c_23

set_option maxRecDepth 20000 in
theorem d_isLikeHead {h : Hp} {b : Nat → Nat} {w xw : Nat} (fc : FC h b w xw) : Con mX11_isLikeHead 3 0 0 [vr (some (b 0))] h (fun v u => u = h ∧ v = some (vi 1)) := by
  refine con_of rfl (Nat.le_of_ble_eq_true rfl) (by decide) ?_
  show J mX11_isLikeHead 3 0 0 _ 0 [some (vr (some (b 0))), none] [] h
  refine j_aload_n dX11_isLikeHead_0 rfl ?_
  refine j_getR dX11_isLikeHead_1 fl_X11_26 rfl (fcK fc 0 rfl rfl) (fcO fc 0 2 3 (by decide)) ?_
  refine j_aload_n dX11_isLikeHead_4 rfl ?_
  refine j_callV0 dX11_isLikeHead_5 vl_X11_249 (d_head fc) (fcK fc 0 rfl rfl) rfl (by decide) (by omega) (by omega) (Nat.le_of_ble_eq_true rfl) (fun v_5 u_5 p_5 => ?_)
  obtain ⟨e_5, rfl⟩ := p_5
  rw [e_5]
  clear e_5
  dsimp only [rs]
  refine j_callV1 dX11_isLikeHead_8 vl_X11_269 (c_logAt 0 (fcLg fc)) (fcK fc 3 rfl rfl) rfl (by decide) (by omega) (by omega) (Nat.le_of_ble_eq_true rfl) (fun v_8 u_8 p_8 => ?_)
  obtain ⟨e_8, rfl⟩ := p_8
  rw [e_8]
  clear e_8
  dsimp only [rs]
  rw [shV_0 fc]
  refine j_astore_n dX11_isLikeHead_11 (by decide) ?_
  dsimp only [st1, st2, unL, List.set]
  refine j_aload_n dX11_isLikeHead_12 rfl ?_
  refine j_ifnull 31 dX11_isLikeHead_13 (by decide) (fun c_13 => ?_) (fun c_13 => ?_)
  · exact absurd c_13 (fun e => by cases e)
  · refine j_aload_n dX11_isLikeHead_16 rfl ?_
    refine j_getR dX11_isLikeHead_17 fl_X11_104 rfl (fcK fc 0 rfl rfl) (fcW fc) ?_
    refine j_aload_n dX11_isLikeHead_20 rfl ?_
    refine j_callV1 dX11_isLikeHead_21 vl_X11_398 (c_isLikeE (fcS fc) (fcS0 fc) (fcX fc) (fun j _ => fcX0 fc j)) (fcS fc).1 rfl (by decide) (by omega) (by omega) (Nat.le_of_ble_eq_true rfl) (fun v_21 u_21 p_21 => ?_)
    obtain ⟨e_21, rfl⟩ := p_21
    rw [e_21]
    clear e_21
    dsimp only [rs]
    refine j_if_eq 31 dX11_isLikeHead_24 (by decide) (fun c_24 => ?_) (fun c_24 => ?_)
    · exact absurd c_24 (by decide)
    · refine j_iconst (v := 1) dX11_isLikeHead_27 (by decide) ?_
      refine j_goto 32 dX11_isLikeHead_28 (by decide) ?_
      exact j_ireturn dX11_isLikeHead_32 rfl rfl (⟨rfl, rfl⟩)

set_option maxRecDepth 20000 in
theorem d_isBusy {h : Hp} {b : Nat → Nat} {w xw : Nat} (fc : FC h b w xw) : Con mX11_isBusy 3 0 0 [vr (some (b 0))] h (fun v u => u = h ∧ v = some (vi 0)) := by
  refine con_of rfl (Nat.le_of_ble_eq_true rfl) (by decide) ?_
  show J mX11_isBusy 3 0 0 _ 0 [some (vr (some (b 0)))] [] h
  refine j_aload_n dX11_isBusy_0 rfl ?_
  refine j_getI dX11_isBusy_1 fl_X11_77 rfl (fcK fc 0 rfl rfl) ?_
  rw [fcI fc 0 13 (-1) (by decide)]
  refine j_iconst (v := -1) dX11_isBusy_4 (by decide) ?_
  refine j_icmp_ne 18 dX11_isBusy_5 (by decide) (fun c_5 => ?_) (fun c_5 => ?_)
  · exact absurd c_5 (by decide)
  · refine j_aload_n dX11_isBusy_8 rfl ?_
    refine j_getR dX11_isBusy_9 fl_X11_46 rfl (fcK fc 0 rfl rfl) (fcO fc 0 4 5 (by decide)) ?_
    refine j_callV0 dX11_isBusy_12 vl_X11_239 (d_unsettled (fcK fc 5 rfl rfl) (fcI fc 5 2 0 (by decide))) (fcK fc 5 rfl rfl) rfl (by decide) (by omega) (by omega) (Nat.le_of_ble_eq_true rfl) (fun v_12 u_12 p_12 => ?_)
    obtain ⟨e_12, rfl⟩ := p_12
    rw [e_12]
    clear e_12
    dsimp only [rs]
    refine j_if_le 22 dX11_isBusy_15 (by decide) (fun c_15 => ?_) (fun c_15 => ?_)
    · refine j_iconst (v := 0) dX11_isBusy_22 (by decide) ?_
      exact j_ireturn dX11_isBusy_23 rfl rfl (⟨rfl, rfl⟩)
    · exact absurd (by decide) c_15

set_option maxRecDepth 20000 in
theorem c_show {h : Hp} {x wk : Nat} {nx : Option Nat} (k1 : hK h x = 12) (o1 : hO h x 11 = some wk) (k2 : hK h wk = 7) : Con mX11_show 1 0 0 [vr (some x), vr nx] h (fun v u => v = none ∧ u = pO (pO h wk 3 none) x 11 nx) := by
  refine con_of rfl (Nat.le_of_ble_eq_true rfl) (by decide) ?_
  show J mX11_show 1 0 0 _ 0 [some (vr (some x)), some (vr nx)] [] h
  refine j_aload_n dX11_show_0 rfl ?_
  refine j_getR dX11_show_1 fl_X11_104 rfl (by first | assumption | (simp only [hK_pI, hK_pG, hK_pO]; assumption) | (simp [hK_nw, hK_pI, hK_pG, hK_pO, *]; done)) (by first | assumption | (simp only [hO_pI, hO_pG]; assumption) | (simp [hO_pO, hO_nw, hO_pI, hO_pG, *]; done)) ?_
  refine j_null dX11_show_4 ?_
  refine j_putO dX11_show_5 fl_X11_404 rfl (by first | assumption | (simp only [hK_pI, hK_pG, hK_pO]; assumption) | (simp [hK_nw, hK_pI, hK_pG, hK_pO, *]; done)) ?_
  refine j_aload_n dX11_show_8 rfl ?_
  refine j_aload_n dX11_show_9 rfl ?_
  refine j_putO dX11_show_10 fl_X11_104 rfl (by first | assumption | (simp only [hK_pI, hK_pG, hK_pO]; assumption) | (simp [hK_nw, hK_pI, hK_pG, hK_pO, *]; done)) ?_
  exact j_return dX11_show_13 rfl (⟨rfl, rfl⟩)

set_option maxRecDepth 20000 in
theorem c_stepsAdd {h : Hp} {sa da n s : Nat} (k1 : hK h sa = 8) (o1 : hO h sa 0 = some da) (k2 : hK h da = 21) (k3 : hN h da = 40) (hn : n < 40) (hc : hI h sa 2 = nI n) (ks : hK h s = 7) : Con mX7_add 1 0 0 [vr (some sa), vr (some s)] h (fun v u => v = none ∧ u = pI (pO (pI h sa 3 0) da n (some s)) sa 2 (nI (n + 1))) := by
  refine con_of rfl (Nat.le_of_ble_eq_true rfl) (by decide) ?_
  show J mX7_add 1 0 0 _ 0 [some (vr (some sa)), some (vr (some s)), none] [] h
  refine j_aload_n dX7_add_0 rfl ?_
  refine j_iconst (v := 0) dX7_add_1 (by decide) ?_
  refine j_putI dX7_add_2 fl_X7_24 rfl rfl rfl (by first | assumption | (simp only [hK_pI, hK_pG, hK_pO]; assumption) | (simp [hK_nw, hK_pI, hK_pG, hK_pO, *]; done)) ?_
  refine j_aload_n dX7_add_5 rfl ?_
  refine j_getI dX7_add_6 fl_X7_20 rfl (by first | assumption | (simp only [hK_pI, hK_pG, hK_pO]; assumption) | (simp [hK_nw, hK_pI, hK_pG, hK_pO, *]; done)) ?_
  rw [show hI (pI h sa 3 0) sa 2 = nI n by rw [hI_pI, if_neg (fun w => absurd w.2 (by decide))]; exact hc]
  refine j_bipush (v := 40) dX7_add_9 (by decide) ?_
  refine j_icmp_lt 48 dX7_add_11 (by decide) (fun c_11 => ?_) (fun c_11 => ?_)
  · refine j_aload_n dX7_add_48 rfl ?_
    refine j_getR dX7_add_49 fl_X7_11 rfl (by first | assumption | (simp only [hK_pI, hK_pG, hK_pO]; assumption) | (simp [hK_nw, hK_pI, hK_pG, hK_pO, *]; done)) (by first | assumption | (simp only [hO_pI, hO_pG]; assumption) | (simp [hO_pO, hO_nw, hO_pI, hO_pG, *]; done)) ?_
    refine j_aload_n dX7_add_52 rfl ?_
    refine j_getI dX7_add_53 fl_X7_20 rfl (by first | assumption | (simp only [hK_pI, hK_pG, hK_pO]; assumption) | (simp [hK_nw, hK_pI, hK_pG, hK_pO, *]; done)) ?_
    rw [show hI (pI h sa 3 0) sa 2 = nI n by rw [hI_pI, if_neg (fun w => absurd w.2 (by decide))]; exact hc]
    refine j_aload_n dX7_add_56 rfl ?_
    refine j_aast (t := 7) n dX7_add_57 k2 (by decide) (by decide) rfl (by rw [hN_pI]; omega) (by rw [hN_pI]; omega) (fun v hv => by cases hv; exact ks) ?_
    refine j_aload_n dX7_add_58 rfl ?_
    refine j_dup dX7_add_59 rfl ?_
    refine j_getI dX7_add_60 fl_X7_20 rfl (by first | assumption | (simp only [hK_pI, hK_pG, hK_pO]; assumption) | (simp [hK_nw, hK_pI, hK_pG, hK_pO, *]; done)) ?_
    rw [show hI (pO (pI h sa 3 0) da n (some s)) sa 2 = nI n by rw [hI_pO, hI_pI, if_neg (fun w => absurd w.2 (by decide))]; exact hc]
    refine j_iconst (v := 1) dX7_add_63 (by decide) ?_
    refine j_iadd dX7_add_64 ?_
    rw [nI_1]
    refine j_putI dX7_add_65 fl_X7_20 rfl rfl rfl (by first | assumption | (simp only [hK_pI, hK_pG, hK_pO]; assumption) | (simp [hK_nw, hK_pI, hK_pG, hK_pO, *]; done)) ?_
    exact j_return dX7_add_68 rfl (⟨rfl, rfl⟩)
  · exact absurd (nI_lt hn (by decide)) c_11

set_option maxRecDepth 20000 in
theorem c_step11 {h : Hp} {x wk sa da n : Nat} {nx : Option Nat} (k1 : hK h x = 12) (o1 : hO h x 11 = some wk) (o2 : hO h x 5 = some sa) (k2 : hK h wk = 7) (k3 : hK h sa = 8) (o3 : hO h sa 0 = some da) (k4 : hK h da = 21) (k5 : hN h da = 40) (hn : n < 40) (hc : hI h sa 2 = nI n) : Con mX11_step 2 0 0 [vr (some x), vr nx] h (fun v u => v = none ∧ u = pO (pO (pI (pO (pI h sa 3 0) da n (some wk)) sa 2 (nI (n + 1))) wk 3 none) x 11 nx) := by
  refine con_of rfl (Nat.le_of_ble_eq_true rfl) (by decide) ?_
  show J mX11_step 2 0 0 _ 0 [some (vr (some x)), some (vr nx)] [] h
  refine j_aload_n dX11_step_0 rfl ?_
  refine j_getR dX11_step_1 fl_X11_53 rfl (by first | assumption | (simp only [hK_pI, hK_pG, hK_pO]; assumption) | (simp [hK_nw, hK_pI, hK_pG, hK_pO, *]; done)) (by first | assumption | (simp only [hO_pI, hO_pG]; assumption) | (simp [hO_pO, hO_nw, hO_pI, hO_pG, *]; done)) ?_
  refine j_aload_n dX11_step_4 rfl ?_
  refine j_getR dX11_step_5 fl_X11_104 rfl (by first | assumption | (simp only [hK_pI, hK_pG, hK_pO]; assumption) | (simp [hK_nw, hK_pI, hK_pG, hK_pO, *]; done)) (by first | assumption | (simp only [hO_pI, hO_pG]; assumption) | (simp [hO_pO, hO_nw, hO_pI, hO_pG, *]; done)) ?_
  refine j_callV1 dX11_step_8 vl_X11_402 (c_stepsAdd k3 o3 k4 k5 hn hc k2) (by first | assumption | (simp only [hK_pI, hK_pG, hK_pO]; assumption) | (simp [hK_nw, hK_pI, hK_pG, hK_pO, *]; done)) rfl (by decide) (by omega) (by omega) (Nat.le_of_ble_eq_true rfl) (fun v_8 u_8 p_8 => ?_)
  obtain ⟨rfl, rfl⟩ := p_8
  dsimp only [rs]
  refine j_aload_n dX11_step_11 rfl ?_
  refine j_aload_n dX11_step_12 rfl ?_
  refine j_callV1 dX11_step_13 vl_X11_230 (c_show (h := pI (pO (pI h sa 3 0) da n (some wk)) sa 2 (nI (n + 1))) k1 (by rw [hO_pI, hO_pO, if_neg (by rintro ⟨rfl, -⟩; omega), hO_pI]; exact o1) k2) (by first | assumption | (simp only [hK_pI, hK_pG, hK_pO]; assumption) | (simp [hK_nw, hK_pI, hK_pG, hK_pO, *]; done)) rfl (by decide) (by omega) (by omega) (Nat.le_of_ble_eq_true rfl) (fun v_13 u_13 p_13 => ?_)
  obtain ⟨rfl, rfl⟩ := p_13
  dsimp only [rs]
  exact j_return dX11_step_16 rfl (⟨rfl, rfl⟩)

set_option maxRecDepth 20000 in
theorem c_forget7 {h : Hp} {sa : Nat} (k1 : hK h sa = 8) : Con mX7_forget 1 0 0 [vr (some sa)] h (fun v u => v = none ∧ u = pI (pI h sa 2 0) sa 3 0) := by
  refine con_of rfl (Nat.le_of_ble_eq_true rfl) (by decide) ?_
  show J mX7_forget 1 0 0 _ 0 [some (vr (some sa))] [] h
  refine j_aload_n dX7_forget_0 rfl ?_
  refine j_iconst (v := 0) dX7_forget_1 (by decide) ?_
  refine j_putI dX7_forget_2 fl_X7_20 rfl rfl rfl (by first | assumption | (simp only [hK_pI, hK_pG, hK_pO]; assumption) | (simp [hK_nw, hK_pI, hK_pG, hK_pO, *]; done)) ?_
  refine j_aload_n dX7_forget_5 rfl ?_
  refine j_iconst (v := 0) dX7_forget_6 (by decide) ?_
  refine j_putI dX7_forget_7 fl_X7_24 rfl rfl rfl (by first | assumption | (simp only [hK_pI, hK_pG, hK_pO]; assumption) | (simp [hK_nw, hK_pI, hK_pG, hK_pO, *]; done)) ?_
  exact j_return dX7_forget_10 rfl (⟨rfl, rfl⟩)

/-- behind a step from the object as it is made -/
def stp11 (h : Hp) (b : Nat → Nat) (w : Nat) (nx : Option Nat) : Hp := pO (pO (pI (pO (pI h (b 6) 3 0) (b 32) 0 (some w)) (b 6) 2 (nI (0 + 1))) w 3 none) (b 0) 11 nx
theorem stp11_fr {h h1 : Hp} {b : Nat → Nat} {w xw : Nat} {nx : Option Nat} (f : Fr (CC b w xw) h h1) : Fr (CC b w xw) h (stp11 h1 b w nx) := Fr_pO (Fr_pO (Fr_pI (Fr_pO (Fr_pI f (Or.inl (ccB b w xw rfl))) (Or.inl (ccB b w xw rfl))) (Or.inl (ccB b w xw rfl))) (Or.inl (ccW b w xw))) (Or.inl (ccB b w xw rfl))
