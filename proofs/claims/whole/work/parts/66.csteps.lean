/-! ===== in general: the steps of the system ===== -/
/-- a whole row of references anew -/
def sO (h : Hp) (a : Nat) (f : Nat → Option Nat) : Hp := (h.1, h.2.1, h.2.2.1, h.2.2.2.1, u1 h.2.2.2.2 a f)
theorem hO_sO (h : Hp) (a : Nat) (f : Nat → Option Nat) (b : Nat) : hO (sO h a f) b = if b = a then f else hO h b := by
  funext j; show (if b = a then f else h.2.2.2.2 b) j = _; by_cases e : b = a <;> simp [e] <;> rfl
theorem hO_sO1 (h : Hp) (a : Nat) (f : Nat → Option Nat) : hO (sO h a f) a = f := by rw [hO_sO, if_pos rfl]
theorem sO_self (h : Hp) (a : Nat) : sO h a (hO h a) = h := by
  have : u1 h.2.2.2.2 a (hO h a) = h.2.2.2.2 := by
    funext b j
    by_cases e : b = a
    · subst e; simp [u1]; rfl
    · simp [u1, e]
  show (h.1, h.2.1, h.2.2.1, h.2.2.2.1, u1 h.2.2.2.2 a (hO h a)) = _
  rw [this]
def updO (f : Nat → Option Nat) (k : Nat) (x : Option Nat) : Nat → Option Nat := fun j => if j = k then x else f j
theorem pO_sO (h : Hp) (a k : Nat) (f : Nat → Option Nat) (x : Option Nat) : pO (sO h a f) a k x = sO h a (updO f k x) := by
  have : u2 (u1 h.2.2.2.2 a f) a k x = u1 h.2.2.2.2 a (updO f k x) := by
    funext b j; by_cases e : b = a <;> by_cases e2 : j = k <;> simp [u2, u1, updO, e, e2]
  show (h.1, h.2.1, h.2.2.1, h.2.2.2.1, u2 (u1 h.2.2.2.2 a f) a k x) = _
  rw [this]; rfl
/-- the first i of a row moved down by one -/
def shl (f : Nat → Option Nat) (i : Nat) : Nat → Option Nat := fun j => if j + 1 < i then f (j + 1) else f j
theorem shl_s (f : Nat → Option Nat) (i : Nat) (hi : 1 ≤ i) : updO (shl f i) (i - 1) (f i) = shl f (i + 1) := by
  funext j
  by_cases e : j = i - 1
  · subst e
    have e2 : i - 1 + 1 = i := by omega
    simp [updO, shl, e2]
  · simp only [updO, if_neg e, shl]
    by_cases q : j + 1 < i
    · rw [if_pos q, if_pos (show j + 1 < i + 1 by omega)]
    · rw [if_neg q, if_neg (show ¬ j + 1 < i + 1 by omega)]
theorem shl_1 (f : Nat → Option Nat) : shl f 1 = f := by funext j; rw [shl, if_neg (by omega)]
set_option maxRecDepth 20000 in
theorem l_stepsF {h : Hp} {sa da s : Nat} (k1 : hK h sa = 8) (o1 : hO h sa 0 = some da) (k2 : hK h da = 21) (k3 : hN h da = 40) (hv : ∀ j v, j < 40 → hO h da j = some v → hK h v = 7) (ks : hK h s = 7) : ∀ (n_ : Nat) (i : Nat), 40 - i < n_ → (1 ≤ i ∧ i ≤ 40) → J mX7_add 1 0 0 (nx (fun v u => v = none ∧ u = pI (pO (pI (sO (pI h sa 3 0) da (shl (hO h da) 40)) sa 2 39) da 39 (some s)) sa 2 (nI 40))) 16 [some (vr (some sa)), some (vr (some s)), some (vi (nI i))] [] (sO (pI h sa 3 0) da (shl (hO h da) i)) := by
  intro n_
  induction n_ with
  | zero => intro i hlt; omega
  | succ n_ ih =>
    intro i hlt hinv
    have hne : sa ≠ da := by rintro rfl; omega
    have hoo : hO (sO (pI h sa 3 0) da (shl (hO h da) i)) sa 0 = some da := by rw [hO_sO, if_neg hne]; exact o1
    refine j_iload_n dX7_add_16 rfl ?_
    refine j_bipush (v := 40) dX7_add_17 (by decide) ?_
    refine j_icmp_ge 42 dX7_add_19 (by decide) (fun c_19 => ?_) (fun c_19 => ?_)
    · have he : i = 40 := by rw [li_40, nI_leI (by omega) (by omega)] at c_19; omega
      subst he
      refine j_aload_n dX7_add_42 rfl ?_
      refine j_bipush (v := 39) dX7_add_43 (by decide) ?_
      refine j_putI dX7_add_45 fl_X7_20 rfl rfl rfl k1 ?_
      refine j_aload_n dX7_add_48 rfl ?_
      refine j_getR dX7_add_49 fl_X7_11 rfl k1 hoo ?_
      refine j_aload_n dX7_add_52 rfl ?_
      refine j_getI dX7_add_53 fl_X7_20 rfl k1 ?_
      rw [hI_pI, if_pos ⟨rfl, rfl⟩]
      refine j_aload_n dX7_add_56 rfl ?_
      refine j_aast (t := 7) 39 dX7_add_57 k2 (by decide) (by decide) rfl (by show 39 < hN h da; rw [k3]; decide) (by show hN h da < _; rw [k3]; decide) (fun v e => by cases e; exact ks) ?_
      refine j_aload_n dX7_add_58 rfl ?_
      refine j_dup dX7_add_59 rfl ?_
      refine j_getI dX7_add_60 fl_X7_20 rfl k1 ?_
      rw [show hI (pO (pI (sO (pI h sa 3 0) da (shl (hO h da) 40)) sa 2 39) da 39 (some s)) sa 2 = 39 by rw [hI_pO, hI_pI, if_pos ⟨rfl, rfl⟩]]
      refine j_iconst (v := 1) dX7_add_63 (by decide) ?_
      refine j_iadd dX7_add_64 ?_
      rw [show (39 : Int32) + 1 = nI 40 from rfl]
      refine j_putI dX7_add_65 fl_X7_20 rfl rfl rfl k1 ?_
      exact j_return dX7_add_68 rfl (⟨rfl, rfl⟩)
    · have hlt2 : i < 40 := by rw [li_40, nI_leI (by omega) (by omega)] at c_19; omega
      refine j_aload_n dX7_add_22 rfl ?_
      refine j_getR dX7_add_23 fl_X7_11 rfl k1 hoo ?_
      refine j_iload_n dX7_add_26 rfl ?_
      refine j_iconst (v := 1) dX7_add_27 (by decide) ?_
      refine j_isub dX7_add_28 ?_
      refine j_aload_n dX7_add_29 rfl ?_
      refine j_getR dX7_add_30 fl_X7_11 rfl k1 hoo ?_
      refine j_iload_n dX7_add_33 rfl ?_
      refine j_aald (t := 7) i dX7_add_34 k2 (by decide) (by decide) rfl (by show i < hN h da; rw [k3]; exact hlt2) (by show hN h da < _; rw [k3]; decide) ?_
      rw [hO_sO1, show shl (hO h da) i i = hO h da i from if_neg (by omega)]
      refine j_aast (t := 7) (i - 1) dX7_add_35 k2 (by decide) (by decide) (by rw [li_1, pk_sub (by omega)]) (by show i - 1 < hN h da; rw [k3]; omega) (by show hN h da < _; rw [k3]; decide) (fun v e => hv i v hlt2 e) ?_
      rw [pO_sO, shl_s _ _ hinv.1]
      refine j_iinc dX7_add_36 rfl ?_
      dsimp only [st1, st2, unL, List.set]
      refine j_goto 16 dX7_add_39 (by decide) ?_
      refine j_lle (lv' := [some (vr (some sa)), some (vr (some s)), some (vi (nI (i + 1)))]) (by first | (simp [lle, nI_1]; done) | (simp [lle, nI_1]; rfl)) ?_
      exact ih (i + 1) (by omega) ⟨by omega, by omega⟩

set_option maxRecDepth 20000 in
theorem c_stepsAddF {h : Hp} {sa da s : Nat} (k1 : hK h sa = 8) (o1 : hO h sa 0 = some da) (k2 : hK h da = 21) (k3 : hN h da = 40) (hc : hI h sa 2 = 40) (hv : ∀ j v, j < 40 → hO h da j = some v → hK h v = 7) (ks : hK h s = 7) : Con mX7_add 1 0 0 [vr (some sa), vr (some s)] h (fun v u => v = none ∧ u = pI (pO (pI (sO (pI h sa 3 0) da (shl (hO h da) 40)) sa 2 39) da 39 (some s)) sa 2 (nI 40)) := by
  refine con_of rfl (Nat.le_of_ble_eq_true rfl) (by decide) ?_
  show J mX7_add 1 0 0 _ 0 [some (vr (some sa)), some (vr (some s)), none] [] h
  refine j_aload_n dX7_add_0 rfl ?_
  refine j_iconst (v := 0) dX7_add_1 (by decide) ?_
  refine j_putI dX7_add_2 fl_X7_24 rfl rfl rfl k1 ?_
  refine j_aload_n dX7_add_5 rfl ?_
  refine j_getI dX7_add_6 fl_X7_20 rfl k1 ?_
  rw [show hI (pI h sa 3 0) sa 2 = 40 by rw [hI_pI, if_neg (by omega)]; exact hc]
  refine j_bipush (v := 40) dX7_add_9 (by decide) ?_
  refine j_icmp_lt 48 dX7_add_11 (by decide) (fun c_11 => ?_) (fun c_11 => ?_)
  · exact absurd c_11 (by decide)
  · refine j_iconst (v := 1) dX7_add_14 (by decide) ?_
    refine j_istore_n dX7_add_15 (by decide) ?_
    dsimp only [st1, st2, unL, List.set]
    refine j_lle (lv' := [some (vr (some sa)), some (vr (some s)), some (vi (nI 1))]) (by first | (simp [lle, nI_1]; done) | (simp [lle, nI_1]; rfl)) ?_
    have z : (sO (pI h sa 3 0) da (shl (hO h da) 1)) = pI h sa 3 0 := by rw [shl_1]; exact sO_self (pI h sa 3 0) da
    have J1 := l_stepsF k1 o1 k2 k3 hv ks 40 1 (by omega) ⟨by omega, by omega⟩
    rw [z] at J1
    exact J1

set_option maxRecDepth 20000 in
theorem c_back7 {h : Hp} {sa da ua s n r : Nat} (k1 : hK h sa = 8) (o1 : hO h sa 0 = some da) (o2 : hO h sa 1 = some ua) (k2 : hK h da = 21) (k3 : hN h da = 40) (k4 : hK h ua = 21) (k5 : hN h ua = 40) (hne : da ≠ ua) (hc : hI h sa 2 = nI (n + 1)) (hr : hI h sa 3 = nI r) (hnr : n + 1 + r ≤ 40) (ks : hK h s = 7) : Con mX7_back 1 0 0 [vr (some sa), vr (some s)] h (fun v u => v = some (vr (hO h da n)) ∧ u = pI (pO (pI h sa 2 (nI n)) ua r (some s)) sa 3 (nI (r + 1))) := by
  have nsa : sa ≠ ua := by rintro rfl; omega
  have nsd : sa ≠ da := by rintro rfl; omega
  refine con_of rfl (Nat.le_of_ble_eq_true rfl) (by decide) ?_
  show J mX7_back 1 0 0 _ 0 [some (vr (some sa)), some (vr (some s))] [] h
  refine j_aload_n dX7_back_0 rfl ?_
  refine j_getI dX7_back_1 fl_X7_20 rfl k1 ?_
  rw [hc]
  refine j_iconst (v := 1) dX7_back_4 (by decide) ?_
  refine j_icmp_lt 17 dX7_back_5 (by decide) (fun c_5 => ?_) (fun c_5 => ?_)
  · exact absurd c_5 (by rw [li_1, nI_ltI (by omega) (by omega)]; omega)
  · refine j_aload_n dX7_back_8 rfl ?_
    refine j_getI dX7_back_9 fl_X7_24 rfl k1 ?_
    rw [hr]
    refine j_bipush (v := 40) dX7_back_12 (by decide) ?_
    refine j_icmp_lt 19 dX7_back_14 (by decide) (fun c_14 => ?_) (fun c_14 => ?_)
    · refine j_aload_n dX7_back_19 rfl ?_
      refine j_dup dX7_back_20 rfl ?_
      refine j_getI dX7_back_21 fl_X7_20 rfl k1 ?_
      rw [hc]
      refine j_iconst (v := 1) dX7_back_24 (by decide) ?_
      refine j_isub dX7_back_25 ?_
      rw [nI_pred]
      refine j_putI dX7_back_26 fl_X7_20 rfl rfl rfl k1 ?_
      refine j_aload_n dX7_back_29 rfl ?_
      refine j_getR dX7_back_30 fl_X7_17 rfl k1 o2 ?_
      refine j_aload_n dX7_back_33 rfl ?_
      refine j_getI dX7_back_34 fl_X7_24 rfl k1 ?_
      rw [show hI (pI h sa 2 (nI n)) sa 3 = nI r by rw [hI_pI, if_neg (by omega)]; exact hr]
      refine j_aload_n dX7_back_37 rfl ?_
      refine j_aast (t := 7) r dX7_back_38 k4 (by decide) (by decide) rfl (by show r < hN h ua; rw [k5]; omega) (by show hN h ua < _; rw [k5]; decide) (fun v e => by cases e; exact ks) ?_
      refine j_aload_n dX7_back_39 rfl ?_
      refine j_dup dX7_back_40 rfl ?_
      refine j_getI dX7_back_41 fl_X7_24 rfl k1 ?_
      rw [show hI (pO (pI h sa 2 (nI n)) ua r (some s)) sa 3 = nI r by rw [hI_pO, hI_pI, if_neg (by omega)]; exact hr]
      refine j_iconst (v := 1) dX7_back_44 (by decide) ?_
      refine j_iadd dX7_back_45 ?_
      rw [nI_1]
      refine j_putI dX7_back_46 fl_X7_24 rfl rfl rfl k1 ?_
      refine j_aload_n dX7_back_49 rfl ?_
      refine j_getR dX7_back_50 fl_X7_11 rfl k1 (show hO (pI (pO (pI h sa 2 (nI n)) ua r (some s)) sa 3 (nI (r + 1))) sa 0 = some da by rw [hO_pI, hO_pO, if_neg (fun e => nsa e.1), hO_pI]; exact o1) ?_
      refine j_aload_n dX7_back_53 rfl ?_
      refine j_getI dX7_back_54 fl_X7_20 rfl k1 ?_
      rw [show hI (pI (pO (pI h sa 2 (nI n)) ua r (some s)) sa 3 (nI (r + 1))) sa 2 = nI n by rw [hI_pI, if_neg (by omega), hI_pO, hI_pI, if_pos ⟨rfl, rfl⟩]]
      refine j_aald (t := 7) n dX7_back_57 k2 (by decide) (by decide) rfl (by show n < hN h da; rw [k3]; omega) (by show hN h da < _; rw [k3]; decide) ?_
      rw [show hO (pI (pO (pI h sa 2 (nI n)) ua r (some s)) sa 3 (nI (r + 1))) da n = hO h da n by rw [hO_pI, hO_pO, if_neg (fun e => hne e.1), hO_pI]]
      exact j_areturn dX7_back_58 rfl rfl (⟨rfl, rfl⟩)
    · exact absurd (by rw [li_40, nI_ltI (by omega) (by omega)]; omega) c_14

set_option maxRecDepth 20000 in
theorem c_again7 {h : Hp} {sa da ua s n r : Nat} (k1 : hK h sa = 8) (o1 : hO h sa 1 = some da) (o2 : hO h sa 0 = some ua) (k2 : hK h da = 21) (k3 : hN h da = 40) (k4 : hK h ua = 21) (k5 : hN h ua = 40) (hne : da ≠ ua) (hc : hI h sa 3 = nI (n + 1)) (hr : hI h sa 2 = nI r) (hnr : n + 1 + r ≤ 40) (ks : hK h s = 7) : Con mX7_again 1 0 0 [vr (some sa), vr (some s)] h (fun v u => v = some (vr (hO h da n)) ∧ u = pI (pO (pI h sa 3 (nI n)) ua r (some s)) sa 2 (nI (r + 1))) := by
  have nsa : sa ≠ ua := by rintro rfl; omega
  have nsd : sa ≠ da := by rintro rfl; omega
  refine con_of rfl (Nat.le_of_ble_eq_true rfl) (by decide) ?_
  show J mX7_again 1 0 0 _ 0 [some (vr (some sa)), some (vr (some s))] [] h
  refine j_aload_n dX7_again_0 rfl ?_
  refine j_getI dX7_again_1 fl_X7_24 rfl k1 ?_
  rw [hc]
  refine j_iconst (v := 1) dX7_again_4 (by decide) ?_
  refine j_icmp_lt 17 dX7_again_5 (by decide) (fun c_5 => ?_) (fun c_5 => ?_)
  · exact absurd c_5 (by rw [li_1, nI_ltI (by omega) (by omega)]; omega)
  · refine j_aload_n dX7_again_8 rfl ?_
    refine j_getI dX7_again_9 fl_X7_20 rfl k1 ?_
    rw [hr]
    refine j_bipush (v := 40) dX7_again_12 (by decide) ?_
    refine j_icmp_lt 19 dX7_again_14 (by decide) (fun c_14 => ?_) (fun c_14 => ?_)
    · refine j_aload_n dX7_again_19 rfl ?_
      refine j_dup dX7_again_20 rfl ?_
      refine j_getI dX7_again_21 fl_X7_24 rfl k1 ?_
      rw [hc]
      refine j_iconst (v := 1) dX7_again_24 (by decide) ?_
      refine j_isub dX7_again_25 ?_
      rw [nI_pred]
      refine j_putI dX7_again_26 fl_X7_24 rfl rfl rfl k1 ?_
      refine j_aload_n dX7_again_29 rfl ?_
      refine j_getR dX7_again_30 fl_X7_11 rfl k1 o2 ?_
      refine j_aload_n dX7_again_33 rfl ?_
      refine j_getI dX7_again_34 fl_X7_20 rfl k1 ?_
      rw [show hI (pI h sa 3 (nI n)) sa 2 = nI r by rw [hI_pI, if_neg (by omega)]; exact hr]
      refine j_aload_n dX7_again_37 rfl ?_
      refine j_aast (t := 7) r dX7_again_38 k4 (by decide) (by decide) rfl (by show r < hN h ua; rw [k5]; omega) (by show hN h ua < _; rw [k5]; decide) (fun v e => by cases e; exact ks) ?_
      refine j_aload_n dX7_again_39 rfl ?_
      refine j_dup dX7_again_40 rfl ?_
      refine j_getI dX7_again_41 fl_X7_20 rfl k1 ?_
      rw [show hI (pO (pI h sa 3 (nI n)) ua r (some s)) sa 2 = nI r by rw [hI_pO, hI_pI, if_neg (by omega)]; exact hr]
      refine j_iconst (v := 1) dX7_again_44 (by decide) ?_
      refine j_iadd dX7_again_45 ?_
      rw [nI_1]
      refine j_putI dX7_again_46 fl_X7_20 rfl rfl rfl k1 ?_
      refine j_aload_n dX7_again_49 rfl ?_
      refine j_getR dX7_again_50 fl_X7_17 rfl k1 (show hO (pI (pO (pI h sa 3 (nI n)) ua r (some s)) sa 2 (nI (r + 1))) sa 1 = some da by rw [hO_pI, hO_pO, if_neg (fun e => nsa e.1), hO_pI]; exact o1) ?_
      refine j_aload_n dX7_again_53 rfl ?_
      refine j_getI dX7_again_54 fl_X7_24 rfl k1 ?_
      rw [show hI (pI (pO (pI h sa 3 (nI n)) ua r (some s)) sa 2 (nI (r + 1))) sa 3 = nI n by rw [hI_pI, if_neg (by omega), hI_pO, hI_pI, if_pos ⟨rfl, rfl⟩]]
      refine j_aald (t := 7) n dX7_again_57 k2 (by decide) (by decide) rfl (by show n < hN h da; rw [k3]; omega) (by show hN h da < _; rw [k3]; decide) ?_
      rw [show hO (pI (pO (pI h sa 3 (nI n)) ua r (some s)) sa 2 (nI (r + 1))) da n = hO h da n by rw [hO_pI, hO_pO, if_neg (fun e => hne e.1), hO_pI]]
      exact j_areturn dX7_again_58 rfl rfl (⟨rfl, rfl⟩)
    · exact absurd (by rw [li_40, nI_ltI (by omega) (by omega)]; omega) c_14

