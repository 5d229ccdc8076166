/-! ===== a new object of the system: the log, the whole ===== -/
theorem cu_step (i : Nat) : upd (fun j => if j < i then nI (j + 1) else 0) i (nI (i + 1)) = (fun j => if j < i + 1 then nI (j + 1) else 0) := by
  funext j
  by_cases e : j = i
  · subst e; simp [upd]
  · simp only [upd, if_neg e]
    by_cases q : j < i
    · rw [if_pos q, if_pos (by omega)]
    · rw [if_neg q, if_neg (by omega)]
set_option maxRecDepth 20000 in
theorem l_countedUp {h : Hp} {m q : Nat} (hn : m < 100) (hq : hK h q = 0) : ∀ (n : Nat) (i : Nat), m - i < n → (i ≤ m) → J mX11_countedUp 2 0 0 (nx (fun v u => v = some (vr (some q)) ∧ u = (sI (nw h q 15 m) q (fun j => if j < m then nI (j + 1) else 0)))) 10 [some (vi (nI m)), some (vr (some q)), some (vi (nI i))] [] (sI (nw h q 15 m) q (fun j => if j < i then nI (j + 1) else 0)) := by
  intro n
  induction n with
  | zero => intro i hlt; omega
  | succ n ih =>
    intro i hlt hinv
    refine j_iload_n dX11_countedUp_10 rfl ?_
    refine j_aload_n dX11_countedUp_11 rfl ?_
    refine j_alen dX11_countedUp_12 (t := 1) (show hK (nw h q 15 m) q = 15 by rw [hK_nw, if_pos rfl]) (by decide) ?_
    rw [show hN (sI (nw h q 15 m) q (fun j => if j < i then nI (j + 1) else 0)) q = m from by show hN (nw h q 15 m) q = m; rw [hN_nw, if_pos rfl]]
    refine j_icmp_ge 28 dX11_countedUp_13 (by decide) (fun c_13 => ?_) (fun c_13 => ?_)
    · have he : i = m := by rw [nI_leI (by omega) (by omega)] at c_13; omega
      subst he
      refine j_aload_n dX11_countedUp_28 rfl ?_
      exact j_areturn dX11_countedUp_29 rfl rfl (⟨rfl, rfl⟩)
    · have hlt2 : i < m := by rw [nI_leI (by omega) (by omega)] at c_13; omega
      refine j_aload_n dX11_countedUp_16 rfl ?_
      refine j_iload_n dX11_countedUp_17 rfl ?_
      refine j_iload_n dX11_countedUp_18 rfl ?_
      refine j_iconst (v := 1) dX11_countedUp_19 (by decide) ?_
      refine j_iadd dX11_countedUp_20 ?_
      rw [nI_1]
      have hN1 : hN (sI (nw h q 15 m) q (fun j => if j < i then nI (j + 1) else 0)) q = m := by show hN (nw h q 15 m) q = m; rw [hN_nw, if_pos rfl]
      refine j_iast i dX11_countedUp_21 (show hK (nw h q 15 m) q = 15 by rw [hK_nw, if_pos rfl]) rfl (by rw [hN1]; exact hlt2) (by rw [hN1]; omega) ?_
      rw [pI_sI, cu_step]
      refine j_iinc dX11_countedUp_22 rfl ?_
      dsimp only [st1, st2, unL, List.set]
      refine j_goto 10 dX11_countedUp_25 (by decide) ?_
      refine j_lle (lv' := [some (vi (nI m)), some (vr (some q)), some (vi (nI (i + 1)))]) (by simp [lle, nI_1]) ?_
      exact ih (i + 1) (by omega) (by omega)

set_option maxRecDepth 20000 in
theorem c_countedUp {h : Hp} {m : Nat} (hn : m < 100) : Con mX11_countedUp 2 1 100 [vi (nI m)] h (fun v u => ∃ q, hK h q = 0 ∧ v = some (vr (some q)) ∧ u = (sI (nw h q 15 m) q (fun j => if j < m then nI (j + 1) else 0))) := by
  refine con_of rfl (Nat.le_of_ble_eq_true rfl) (by decide) ?_
  show J mX11_countedUp 2 1 100 _ 0 [some (vi (nI m)), none, none] [] h
  refine j_iload_n dX11_countedUp_0 rfl ?_
  refine j_iconst (v := 0) dX11_countedUp_1 (by decide) ?_
  refine j_mmax dX11_countedUp_2 sl_X11_365 (by decide) (Nat.le_of_ble_eq_true rfl) ?_
  rw [show (if nI m < (0 : Int32) then 0 else nI m) = nI m from if_neg (nI_pos (by omega))]
  refine j_mono (mc' := 0 + 1) (ms' := 0 + m) (by omega) (by omega) ?_
  refine j_newI (m) dX11_countedUp_5 ac_int rfl (by omega) (fun q_5 hq_5 => ?_)
  refine j_astore_n dX11_countedUp_7 (by decide) ?_
  dsimp only [st1, st2, unL, List.set]
  refine j_iconst (v := 0) dX11_countedUp_8 (by decide) ?_
  refine j_istore_n dX11_countedUp_9 (by decide) ?_
  dsimp only [st1, st2, unL, List.set]
  refine j_lle (lv' := [some (vi (nI m)), some (vr (some q_5)), some (vi (nI 0))]) (by simp [lle]; rfl) ?_
  have z : (sI (nw h q_5 15 m) q_5 (fun j => if j < 0 then nI (j + 1) else 0)) = nw h q_5 15 m := by
    rw [show (fun j => if j < 0 then nI (j + 1) else 0) = hI (nw h q_5 15 m) q_5 by funext j; rw [if_neg (by omega), hI_nw, if_pos rfl], sI_self]
  rw [← z]
  refine j_mono (mc' := 0) (ms' := 0) (by omega) (by omega) ?_
  refine j_post (fun o_ u_ hp_ => ?_) (l_countedUp hn hq_5 (m + 1) 0 (by omega) (by omega))
  cases o_ with
  | inl v_ => exact ⟨q_5, hq_5, hp_.1, hp_.2⟩
  | inr E_ => exact hp_

/-- the log at la: its rows, and how many versions -/
def Lg (h : Hp) (la sa pa oa aa n : Nat) : Prop := hK h la = 3 ∧ (hO h la 0 = some sa ∧ hO h la 1 = some pa ∧ hO h la 2 = some oa ∧ hO h la 3 = some aa) ∧ (hK h sa = 21 ∧ hN h sa = 40) ∧ (hK h pa = 15 ∧ hN h pa = 40) ∧ (hK h oa = 15 ∧ hN h oa = 40) ∧ (hK h aa = 16 ∧ hN h aa = 40) ∧ hI h la 4 = nI n ∧ n ≤ 40
def anV (h : Hp) (aa n : Nat) (x : Int32) : Int64 := if 0 ≤ x ∧ x < nI n then hG h aa x.toNatClampNeg else 0
set_option maxRecDepth 20000 in
theorem c_ancestorsOf {h : Hp} {la sa pa oa aa n : Nat} (x : Int32) (hg : Lg h la sa pa oa aa n) : Con mX2_ancestorsOf 1 0 0 [vr (some la), vi x] h (fun v u => u = h ∧ v = some (vl (anV h aa n x))) := by
  obtain ⟨k1, ⟨o1, o2, o3, o4⟩, ⟨k2, k3⟩, ⟨k4, k5⟩, ⟨k6, k7⟩, ⟨k8, k9⟩, hc, hn⟩ := id hg
  refine con_of rfl (Nat.le_of_ble_eq_true rfl) (by decide) ?_
  show J mX2_ancestorsOf 1 0 0 _ 0 [some (vr (some la)), some (vi x)] [] h
  refine j_iload_n dX2_ancestorsOf_0 rfl ?_
  refine j_if_lt 21 dX2_ancestorsOf_1 (by decide) (fun c_1 => ?_) (fun c_1 => ?_)
  · refine j_lconst (v := 0) dX2_ancestorsOf_21 (by decide) ?_
    first | exact j_lreturn dX2_ancestorsOf_22 rfl ⟨rfl, by rw [anV, if_pos ⟨nI_pos' (by omega), nI_lt hjn (by omega)⟩, nI_clamp (by omega)]⟩ | exact j_lreturn dX2_ancestorsOf_22 rfl ⟨rfl, by rw [anV, if_neg (by simp only [lt_i, le_i, Int32.reduceToInt] at *; omega)]⟩
  · refine j_iload_n dX2_ancestorsOf_4 rfl ?_
    refine j_aload_n dX2_ancestorsOf_5 rfl ?_
    refine j_getI dX2_ancestorsOf_6 fl_X2_28 rfl (by first | assumption | (simp only [hK_pI, hK_pG, hK_pO]; assumption) | (simp [hK_nw, hK_pI, hK_pG, hK_pO, *]; done)) ?_
    rw [hc]
    refine j_icmp_ge 21 dX2_ancestorsOf_9 (by decide) (fun c_9 => ?_) (fun c_9 => ?_)
    · refine j_lconst (v := 0) dX2_ancestorsOf_21 (by decide) ?_
      first | exact j_lreturn dX2_ancestorsOf_22 rfl ⟨rfl, by rw [anV, if_pos ⟨nI_pos' (by omega), nI_lt hjn (by omega)⟩, nI_clamp (by omega)]⟩ | exact j_lreturn dX2_ancestorsOf_22 rfl ⟨rfl, by rw [anV, if_neg (by simp only [lt_i, le_i, Int32.reduceToInt] at *; omega)]⟩
    · obtain ⟨j, hj, rfl⟩ := nI_of (x := x) c_1
      have hjn : j < n := by rw [nI_leI (by omega) (by omega)] at c_9; omega
      refine j_aload_n dX2_ancestorsOf_12 rfl ?_
      refine j_getR dX2_ancestorsOf_13 fl_X2_24 rfl (by first | assumption | (simp only [hK_pI, hK_pG, hK_pO]; assumption) | (simp [hK_nw, hK_pI, hK_pG, hK_pO, *]; done)) (by first | assumption | (simp only [hO_pI, hO_pG]; assumption) | (simp [hO_pO, hO_nw, hO_pI, hO_pG, *]; done)) ?_
      refine j_iload_n dX2_ancestorsOf_16 rfl ?_
      refine j_lald j dX2_ancestorsOf_17 k8 rfl (by omega) (by omega) ?_
      refine j_goto 22 dX2_ancestorsOf_18 (by decide) ?_
      first | exact j_lreturn dX2_ancestorsOf_22 rfl ⟨rfl, by rw [anV, if_pos ⟨nI_pos' (by omega), nI_lt hjn (by omega)⟩, nI_clamp (by omega)]⟩ | exact j_lreturn dX2_ancestorsOf_22 rfl ⟨rfl, by rw [anV, if_neg (by simp only [lt_i, le_i, Int32.reduceToInt] at *; omega)]⟩

theorem Lg_in {h : Hp} {la sa pa oa aa n : Nat} (hg : Lg h la sa pa oa aa n) : la ≠ sa ∧ la ≠ pa ∧ la ≠ oa ∧ la ≠ aa ∧ sa ≠ pa ∧ sa ≠ oa ∧ sa ≠ aa ∧ pa ≠ aa ∧ oa ≠ aa := by
  obtain ⟨k1, ⟨o1, o2, o3, o4⟩, ⟨k2, k3⟩, ⟨k4, k5⟩, ⟨k6, k7⟩, ⟨k8, k9⟩, hc, hn⟩ := id hg
  refine ⟨?_, ?_, ?_, ?_, ?_, ?_, ?_, ?_, ?_⟩ <;> (rintro rfl; omega)
theorem Lg_mid {h : Hp} {la sa pa oa aa n s : Nat} {p o : Int32} (hg : Lg h la sa pa oa aa n) : Lg (pI (pI (pO h sa n (some s)) pa n p) oa n o) la sa pa oa aa n := by
  obtain ⟨d1, d2, d3, d4, d5, d6, d7, d8, d9⟩ := Lg_in hg
  obtain ⟨k1, ⟨o1, o2, o3, o4⟩, ⟨k2, k3⟩, ⟨k4, k5⟩, ⟨k6, k7⟩, ⟨k8, k9⟩, hc, hn⟩ := id hg
  refine ⟨k1, ⟨?_, ?_, ?_, ?_⟩, ⟨k2, k3⟩, ⟨k4, k5⟩, ⟨k6, k7⟩, ⟨k8, k9⟩, ?_, hn⟩
  · rw [hO_pI, hO_pI, hO_pO, if_neg (fun w => d1 w.1)]; exact o1
  · rw [hO_pI, hO_pI, hO_pO, if_neg (fun w => d1 w.1)]; exact o2
  · rw [hO_pI, hO_pI, hO_pO, if_neg (fun w => d1 w.1)]; exact o3
  · rw [hO_pI, hO_pI, hO_pO, if_neg (fun w => d1 w.1)]; exact o4
  · rw [hI_pI, if_neg (fun w => d3 w.1), hI_pI, if_neg (fun w => d2 w.1), hI_pO]; exact hc
set_option maxRecDepth 20000 in
theorem c_logAdd {h : Hp} {la sa pa oa aa n : Nat} {s : Nat} (p o : Int32) (hg : Lg h la sa pa oa aa n) (hn4 : n < 40) (hs : hK h s = 7) : Con mX2_add 2 0 0 [vr (some la), vr (some s), vi p, vi o] h (fun v u => v = some (vi (nI n)) ∧ u = pI (pG (pI (pI (pO h sa n (some s)) pa n p) oa n o) aa n (1 <<< ((nI n).toInt64 &&& 63) ||| anV h aa n p ||| anV h aa n o)) la 4 (nI (n + 1))) := by
  obtain ⟨d1, d2, d3, d4, d5, d6, d7, d8, d9⟩ := Lg_in hg
  obtain ⟨k1, ⟨o1, o2, o3, o4⟩, ⟨k2, k3⟩, ⟨k4, k5⟩, ⟨k6, k7⟩, ⟨k8, k9⟩, hc, hn⟩ := id hg
  refine con_of rfl (Nat.le_of_ble_eq_true rfl) (by decide) ?_
  show J mX2_add 2 0 0 _ 0 [some (vr (some la)), some (vr (some s)), some (vi p), some (vi o)] [] h
  refine j_aload_n dX2_add_0 rfl ?_
  refine j_getI dX2_add_1 fl_X2_28 rfl k1 ?_
  rw [hc]
  refine j_bipush (v := 40) dX2_add_4 (by decide) ?_
  refine j_icmp_lt 11 dX2_add_6 (by decide) (fun c_6 => ?_) (fun c_6 => ?_)
  · refine j_aload_n dX2_add_11 rfl ?_
    refine j_getR dX2_add_12 fl_X2_11 rfl k1 o1 ?_
    refine j_aload_n dX2_add_15 rfl ?_
    refine j_getI dX2_add_16 fl_X2_28 rfl k1 ?_
    rw [hc]
    refine j_aload_n dX2_add_19 rfl ?_
    refine j_aast (t := 7) n dX2_add_20 k2 (by decide) (by decide) rfl (by omega) (by omega) (fun v hv => by cases hv; exact hs) ?_
    refine j_aload_n dX2_add_21 rfl ?_
    refine j_getR dX2_add_22 fl_X2_17 rfl k1 (by simp [hO_pI, hO_pO, hO_pG, d1]; exact o2) ?_
    refine j_aload_n dX2_add_25 rfl ?_
    refine j_getI dX2_add_26 fl_X2_28 rfl k1 ?_
    rw [show hI (pO h sa n (some s)) la 4 = nI n by simp [hI_pI, hI_pO, hI_pG, d2, d3]; exact hc]
    refine j_iload_n dX2_add_29 rfl ?_
    refine j_iast n dX2_add_30 k4 rfl (by show n < hN h pa; omega) (by show hN h pa < _; omega) ?_
    refine j_aload_n dX2_add_31 rfl ?_
    refine j_getR dX2_add_32 fl_X2_21 rfl k1 (by simp [hO_pI, hO_pO, hO_pG, d1]; exact o3) ?_
    refine j_aload_n dX2_add_35 rfl ?_
    refine j_getI dX2_add_36 fl_X2_28 rfl k1 ?_
    rw [show hI (pI (pO h sa n (some s)) pa n p) la 4 = nI n by simp [hI_pI, hI_pO, hI_pG, d2, d3]; exact hc]
    refine j_iload_n dX2_add_39 rfl ?_
    refine j_iast n dX2_add_40 k6 rfl (by show n < hN h oa; omega) (by show hN h oa < _; omega) ?_
    refine j_aload_n dX2_add_41 rfl ?_
    refine j_getR dX2_add_42 fl_X2_24 rfl k1 (by simp [hO_pI, hO_pO, hO_pG, d1]; exact o4) ?_
    refine j_aload_n dX2_add_45 rfl ?_
    refine j_getI dX2_add_46 fl_X2_28 rfl k1 ?_
    rw [show hI (pI (pI (pO h sa n (some s)) pa n p) oa n o) la 4 = nI n by simp [hI_pI, hI_pO, hI_pG, d2, d3]; exact hc]
    refine j_lconst (v := 1) dX2_add_49 (by decide) ?_
    refine j_aload_n dX2_add_50 rfl ?_
    refine j_getI dX2_add_51 fl_X2_28 rfl k1 ?_
    rw [show hI (pI (pI (pO h sa n (some s)) pa n p) oa n o) la 4 = nI n by simp [hI_pI, hI_pO, hI_pG, d2, d3]; exact hc]
    refine j_lshl dX2_add_54 ?_
    refine j_aload_n dX2_add_55 rfl ?_
    refine j_iload_n dX2_add_56 rfl ?_
    refine j_callV1 dX2_add_57 vl_X2_32 (c_ancestorsOf p (Lg_mid (s := s) (p := p) (o := o) hg)) k1 rfl (by decide) (by omega) (by omega) (Nat.le_of_ble_eq_true rfl) (fun v_57 u_57 p_57 => ?_)
    obtain ⟨rfl, rfl⟩ := p_57
    rw [show anV (pI (pI (pO h sa n (some s)) pa n p) oa n o) aa n p = anV h aa n p from rfl]
    dsimp only [rs]
    refine j_lor dX2_add_60 ?_
    refine j_aload_n dX2_add_61 rfl ?_
    refine j_iload_n dX2_add_62 rfl ?_
    refine j_callV1 dX2_add_63 vl_X2_32 (c_ancestorsOf o (Lg_mid (s := s) (p := p) (o := o) hg)) k1 rfl (by decide) (by omega) (by omega) (Nat.le_of_ble_eq_true rfl) (fun v_63 u_63 p_63 => ?_)
    obtain ⟨rfl, rfl⟩ := p_63
    rw [show anV (pI (pI (pO h sa n (some s)) pa n p) oa n o) aa n o = anV h aa n o from rfl]
    dsimp only [rs]
    refine j_lor dX2_add_66 ?_
    refine j_last n dX2_add_67 k8 rfl (by show n < hN h aa; omega) (by show hN h aa < _; omega) ?_
    refine j_aload_n dX2_add_68 rfl ?_
    refine j_dup dX2_add_69 rfl ?_
    refine j_getI dX2_add_70 fl_X2_28 rfl k1 ?_
    rw [show hI (pG (pI (pI (pO h sa n (some s)) pa n p) oa n o) aa n (1 <<< ((nI n).toInt64 &&& 63) ||| anV h aa n p ||| anV h aa n o)) la 4 = nI n by simp [hI_pI, hI_pO, hI_pG, d2, d3]; exact hc]
    refine j_iconst (v := 1) dX2_add_73 (by decide) ?_
    refine j_iadd dX2_add_74 ?_
    rw [nI_1]
    refine j_putI dX2_add_75 fl_X2_28 rfl rfl rfl k1 ?_
    refine j_aload_n dX2_add_78 rfl ?_
    refine j_getI dX2_add_79 fl_X2_28 rfl k1 ?_
    rw [hI_pI, if_pos ⟨rfl, rfl⟩]
    refine j_iconst (v := 1) dX2_add_82 (by decide) ?_
    refine j_isub dX2_add_83 ?_
    exact j_ireturn dX2_add_84 rfl rfl (⟨by rw [nI_pred], rfl⟩)
  · exact absurd (nI_lt hn4 (by decide)) c_6

