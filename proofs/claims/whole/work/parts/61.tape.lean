/-! ===== in general: what stands as long as the object does; the tape ===== -/
def crf : List (Nat × Nat × Nat) := [(0, 0, 1), (0, 1, 2), (0, 2, 3), (0, 3, 4), (0, 4, 5), (0, 5, 6), (0, 6, 7), (0, 7, 8), (0, 8, 9), (0, 9, 10), (1, 0, 11), (1, 1, 12), (1, 2, 13), (2, 0, 14), (2, 1, 15), (2, 2, 16), (16, 0, 17), (3, 0, 18), (3, 1, 19), (3, 2, 20), (3, 3, 21), (4, 0, 18), (4, 1, 22), (4, 2, 23), (23, 0, 24), (4, 3, 25), (4, 4, 26), (4, 5, 27), (4, 6, 28), (4, 7, 29), (5, 0, 30), (5, 1, 31), (6, 0, 32), (6, 1, 33), (7, 0, 34)]
/-- the cells that an object has from its making on -/
def CW (h : Hp) (b : Nat → Nat) : Prop := (∀ k, k < 35 → hK h (b k) = ck k ∧ hN h (b k) = cn k) ∧ (∀ i j, i < 35 → j < 35 → b i = b j → i = j) ∧ ∀ t ∈ crf, hO h (b t.1) t.2.1 = some (b t.2.2)
theorem cwK {h : Hp} {b : Nat → Nat} (f : CW h b) (k : Nat) {c : Nat} (hk : Nat.ble 35 k = false) (hc : ck k = c) : hK h (b k) = c := by rw [← hc]; exact (f.1 k (Nat.lt_of_not_le (fun w => by rw [Nat.ble_eq_true_of_le w] at hk; cases hk))).1
theorem cwN {h : Hp} {b : Nat → Nat} (f : CW h b) (k : Nat) {c : Nat} (hk : Nat.ble 35 k = false) (hc : cn k = c) : hN h (b k) = c := by rw [← hc]; exact (f.1 k (Nat.lt_of_not_le (fun w => by rw [Nat.ble_eq_true_of_le w] at hk; cases hk))).2
theorem cwO {h : Hp} {b : Nat → Nat} (f : CW h b) (k j k2 : Nat) (hm : (k, j, k2) ∈ crf) : hO h (b k) j = some (b k2) := f.2.2 _ hm
theorem cwNe {h : Hp} {b : Nat → Nat} (f : CW h b) {i j : Nat} (hi : Nat.ble 35 i = false) (hj : Nat.ble 35 j = false) (hij : (i == j) = false) : b i ≠ b j := fun e => by
  have q := f.2.1 i j (Nat.lt_of_not_le (fun w => by rw [Nat.ble_eq_true_of_le w] at hi; cases hi)) (Nat.lt_of_not_le (fun w => by rw [Nat.ble_eq_true_of_le w] at hj; cases hj)) e
  rw [q] at hij
  simp at hij
theorem CW_fc {h : Hp} {b : Nat → Nat} {w xw : Nat} (f : FC h b w xw) : CW h b := by
  have c : ∀ t ∈ crf, t ∈ crl := by decide
  exact ⟨fun k hk => f.1 k (by omega), fun i j hi hj e => f.2.1 i j (by omega) (by omega) e, fun t ht => f.2.2.1 t (c t ht)⟩
/-- ints alone are written, and none of the references -/
def Eo (h u : Hp) : Prop := u.1 = h.1 ∧ u.2.1 = h.2.1 ∧ u.2.2.2.1 = h.2.2.2.1 ∧ u.2.2.2.2 = h.2.2.2.2
theorem CW_eo {h u : Hp} {b : Nat → Nat} (f : CW h b) (e : Eo h u) : CW u b := by
  obtain ⟨e1, e2, e3, e4⟩ := e
  have k1 : ∀ a, hK u a = hK h a := fun a => by show u.1 a = h.1 a; rw [e1]
  have k2 : ∀ a, hN u a = hN h a := fun a => by show u.2.1 a = h.2.1 a; rw [e2]
  have k4 : ∀ a k, hO u a k = hO h a k := fun a k => by show u.2.2.2.2 a k = h.2.2.2.2 a k; rw [e4]
  exact ⟨fun k hk => ⟨(k1 _).trans (f.1 k hk).1, (k2 _).trans (f.1 k hk).2⟩, f.2.1, fun t ht => (k4 _ _).trans (f.2.2 t ht)⟩
theorem Eo_pI {h u : Hp} {a k : Nat} {x : Int32} (e : Eo h u) : Eo h (pI u a k x) := e
theorem Eo_sI {h u : Hp} {a : Nat} {f : Nat → Int32} (e : Eo h u) : Eo h (sI u a f) := e
theorem Eo_rf {h : Hp} : Eo h h := ⟨rfl, rfl, rfl, rfl⟩
theorem pI_over (h : Hp) (a k : Nat) (x y : Int32) : pI (pI h a k x) a k y = pI h a k y := by
  have : u2 (u2 h.2.2.1 a k x) a k y = u2 h.2.2.1 a k y := by funext b j; by_cases e : b = a ∧ j = k <;> simp [u2, e]
  show (h.1, h.2.1, u2 (u2 h.2.2.1 a k x) a k y, h.2.2.2.1, h.2.2.2.2) = _
  rw [this]; rfl
theorem pI_swap (h : Hp) {a k c j : Nat} (x y : Int32) (hne : a ≠ c) : pI (pI h a k x) c j y = pI (pI h c j y) a k x := by
  have : u2 (u2 h.2.2.1 a k x) c j y = u2 (u2 h.2.2.1 c j y) a k x := by
    funext b i
    by_cases e : b = a
    · subst e; simp [u2, hne]
    · simp [u2, e]
  show (h.1, h.2.1, u2 (u2 h.2.2.1 a k x) c j y, h.2.2.2.1, h.2.2.2.2) = _
  rw [this]; rfl
/-- byte i of four -/
def bt (x : Int32) (i : Nat) : Int32 := (x >>> (shf i &&& 31)).toInt8.toInt32
def ad4 (f : Nat → Int32) (m : Nat) (x : Int32) (n : Nat) : Nat → Int32 := fun j => if m ≤ j ∧ j < m + n then bt x (j - m) else f j
theorem ad4_s (f : Nat → Int32) (m : Nat) (x : Int32) (i : Nat) : upd (ad4 f m x i) (m + i) (bt x i) = ad4 f m x (i + 1) := by
  funext j
  by_cases e : j = m + i
  · subst e
    have q : m ≤ m + i ∧ m + i < m + (i + 1) := by omega
    have e : m + i - m = i := by omega
    simp [upd, ad4, q, e]
  · simp only [upd, if_neg e, ad4]
    by_cases q : m ≤ j ∧ j < m + i
    · rw [if_pos q, if_pos (show m ≤ j ∧ j < m + (i + 1) by omega)]
    · rw [if_neg q, if_neg (show ¬ (m ≤ j ∧ j < m + (i + 1)) by omega)]
theorem ad4_0 (f : Nat → Int32) (m : Nat) (x : Int32) : ad4 f m x 0 = f := by
  funext j; rw [ad4, if_neg (by omega)]
/-- the reader r with tape t, after i of the four bytes -/
def rdH (h : Hp) (r t m : Nat) (x : Int32) (i : Nat) : Hp := pI (sI h t (ad4 (hI h t) m x i)) r 3 (nI (m + i))
theorem rdH_s {h : Hp} {r t m : Nat} {x : Int32} {i : Nat} (hne : r ≠ t) : pI (pI (rdH h r t m x i) t (m + i) (bt x i)) r 3 (nI (m + i + 1)) = rdH h r t m x (i + 1) := by
  rw [rdH, pI_swap _ _ _ hne, pI_over, pI_sI, ad4_s]; rfl
theorem rdH_0 {h : Hp} {r t m : Nat} {x : Int32} (hl : hI h r 3 = nI m) : rdH h r t m x 0 = h := by
  rw [rdH, ad4_0, sI_self, Nat.add_zero, pI_same hl]
set_option maxRecDepth 20000 in
theorem l_rdAddS {h : Hp} {r t m : Nat} {x : Int32} (k1 : hK h r = 6) (k2 : hK h t = 14) (k3 : hN h t = 400) (hm4 : m + 4 ≤ 400) (o1 : hO h r 0 = some t) : ∀ (n_ : Nat) (i : Nat), 4 - i < n_ → (i ≤ 4) → J mX5_add 1 0 0 (nx (fun v u => v = none ∧ u = rdH h r t m x 4)) 3 [some (vr (some r)), some (vi x), some (vi (shf i))] [] (rdH h r t m x i) := by
  intro n_
  induction n_ with
  | zero => intro i hlt; omega
  | succ n_ ih =>
    intro i hlt hinv
    have hrt : r ≠ t := by rintro rfl; omega
    have hl : hI (rdH h r t m x i) r 3 = nI (m + i) := by rw [rdH, hI_pI, if_pos ⟨rfl, rfl⟩]
    refine j_iload_n dX5_add_3 rfl ?_
    refine j_if_lt 46 dX5_add_4 (by decide) (fun c_4 => ?_) (fun c_4 => ?_)
    · have he : i = 4 := Classical.byContradiction fun z => absurd c_4 (shf_n (by omega))
      subst he
      exact j_return dX5_add_46 rfl ⟨rfl, rfl⟩
    · have hi4 : i < 4 := Classical.byContradiction fun z => c_4 (by rw [show i = 4 by omega]; decide)
      refine j_aload_n dX5_add_7 rfl ?_
      refine j_getI dX5_add_8 fl_X5_24 rfl k1 ?_
      rw [hl]
      refine j_sipush (v := 400) dX5_add_11 (by decide) ?_
      refine j_icmp_ge 46 dX5_add_14 (by decide) (fun c_14 => ?_) (fun c_14 => ?_)
      · exact absurd c_14 (by rw [li_400, nI_leI (by decide) (by omega)]; omega)
      · refine j_aload_n dX5_add_17 rfl ?_
        refine j_getR dX5_add_18 fl_X5_9 rfl k1 o1 ?_
        refine j_aload_n dX5_add_21 rfl ?_
        refine j_getI dX5_add_22 fl_X5_24 rfl k1 ?_
        rw [hl]
        refine j_iload_n dX5_add_25 rfl ?_
        refine j_iload_n dX5_add_26 rfl ?_
        refine j_ishr dX5_add_27 ?_
        refine j_i2b dX5_add_28 ?_
        refine j_bast (m + i) dX5_add_29 k2 rfl (by show m + i < hN h t; rw [k3]; omega) (by show hN h t < _; rw [k3]; decide) (nar_b _) ?_
        refine j_aload_n dX5_add_30 rfl ?_
        refine j_dup dX5_add_31 rfl ?_
        refine j_getI dX5_add_32 fl_X5_24 rfl k1 ?_
        rw [show hI (pI (rdH h r t m x i) t (m + i) _) r 3 = nI (m + i) by rw [hI_pI, if_neg (fun e => hrt e.1)]; exact hl]
        refine j_iconst (v := 1) dX5_add_35 (by decide) ?_
        refine j_iadd dX5_add_36 ?_
        rw [nI_1]
        refine j_putI dX5_add_37 fl_X5_24 rfl rfl rfl k1 ?_
        rw [show (x >>> (shf i &&& 31)).toInt8.toInt32 = bt x i from rfl, rdH_s hrt]
        refine j_iinc dX5_add_40 rfl ?_
        dsimp only [st1, st2, unL, List.set]
        refine j_goto 3 dX5_add_43 (by decide) ?_
        rw [shf_s hi4]
        exact ih (i + 1) (by omega) (by omega)

set_option maxRecDepth 20000 in
theorem c_rdAddS {h : Hp} {r t m : Nat} (x : Int32) (k1 : hK h r = 6) (k2 : hK h t = 14) (k3 : hN h t = 400) (hm4 : m + 4 ≤ 400) (o1 : hO h r 0 = some t) (hl : hI h r 3 = nI m) : Con mX5_add 1 0 0 [vr (some r), vi x] h (fun v u => v = none ∧ u = rdH h r t m x 4) := by
  have z := rdH_0 (x := x) (t := t) hl
  refine con_of rfl (Nat.le_of_ble_eq_true rfl) (by decide) ?_
  show J mX5_add 1 0 0 _ 0 [some (vr (some r)), some (vi x), none] [] h
  refine j_bipush (v := 24) dX5_add_0 (by decide) ?_
  refine j_istore_n dX5_add_2 (by decide) ?_
  dsimp only [st1, st2, unL, List.set]
  rw [← z]
  rw [show rdH (rdH h r t m x 0) r t m x 4 = rdH h r t m x 4 by rw [z]]
  exact l_rdAddS k1 k2 k3 hm4 o1 5 0 (by omega) (by omega)

def fdC (h : Hp) (b : Nat → Nat) (m : Nat) (p q r s t : Int32) : Hp := rdH (rdH (rdH (rdH (rdH h (b 1) (b 11) m p 4) (b 1) (b 11) (m + 4) q 4) (b 1) (b 11) (m + 8) r 4) (b 1) (b 11) (m + 12) s 4) (b 1) (b 11) (m + 16) t 4
theorem rdH_l {h : Hp} {r t m : Nat} {x : Int32} {i : Nat} : hI (rdH h r t m x i) r 3 = nI (m + i) := by rw [rdH, hI_pI, if_pos ⟨rfl, rfl⟩]
set_option maxRecDepth 20000 in
theorem g_feed {h : Hp} {b : Nat → Nat} {m : Nat} (p q r s t : Int32) (cw : CW h b) (hl : hI h (b 1) 3 = nI m) (hm : m ≤ 400) : Con mX11_feed 2 0 0 [vr (some (b 0)), vi p, vi q, vi r, vi s, vi t] h (fun v u => (380 < m ∧ v = some (vi (-1)) ∧ u = h) ∨ (m ≤ 380 ∧ v = some (vi (nI (m + 20))) ∧ u = fdC h b m p q r s t)) := by
  refine con_of rfl (Nat.le_of_ble_eq_true rfl) (by decide) ?_
  show J mX11_feed 2 0 0 _ 0 [some (vr (some (b 0))), some (vi p), some (vi q), some (vi r), some (vi s), some (vi t)] [] h
  refine j_aload_n dX11_feed_0 rfl ?_
  refine j_getR dX11_feed_1 fl_X11_10 rfl (cwK cw 0 (c := 12) rfl rfl) (cwO cw 0 0 1 (by decide)) ?_
  refine j_getI dX11_feed_4 fl_X11_108 rfl (cwK cw 1 (c := 6) rfl rfl) ?_
  rw [hl]
  refine j_sipush (v := 380) dX11_feed_7 (by decide) ?_
  refine j_icmp_le 15 dX11_feed_10 (by decide) (fun c_10 => ?_) (fun c_10 => ?_)
  · have hm8 : m ≤ 380 := by rw [show (380 : Int32) = nI 380 from rfl, nI_leI (by omega) (by decide)] at c_10; omega
    refine j_aload_n dX11_feed_15 rfl ?_
    refine j_getR dX11_feed_16 fl_X11_10 rfl (cwK cw 0 (c := 12) rfl rfl) (cwO cw 0 0 1 (by decide)) ?_
    refine j_iload_n dX11_feed_19 rfl ?_
    refine j_callV1 dX11_feed_20 vl_X11_111 (c_rdAddS (h := h) (m := m) _ (cwK cw 1 (c := 6) rfl rfl) (cwK cw 11 (c := 14) rfl rfl) (cwN cw 11 (c := 400) rfl rfl) (by omega) (cwO cw 1 0 11 (by decide)) hl) (cwK cw 1 (c := 6) rfl rfl) rfl (by decide) (by omega) (by omega) (Nat.le_of_ble_eq_true rfl) (fun v_20 u_20 p_20 => ?_)
    obtain ⟨rfl, rfl⟩ := p_20
    dsimp only [rs]
    refine j_aload_n dX11_feed_23 rfl ?_
    refine j_getR dX11_feed_24 fl_X11_10 rfl (cwK cw 0 (c := 12) rfl rfl) (cwO cw 0 0 1 (by decide)) ?_
    refine j_iload_n dX11_feed_27 rfl ?_
    refine j_callV1 dX11_feed_28 vl_X11_111 (c_rdAddS (h := (rdH h (b 1) (b 11) m p 4)) (m := m + 4) _ (cwK cw 1 (c := 6) rfl rfl) (cwK cw 11 (c := 14) rfl rfl) (cwN cw 11 (c := 400) rfl rfl) (by omega) (cwO cw 1 0 11 (by decide)) rdH_l) (cwK cw 1 (c := 6) rfl rfl) rfl (by decide) (by omega) (by omega) (Nat.le_of_ble_eq_true rfl) (fun v_28 u_28 p_28 => ?_)
    obtain ⟨rfl, rfl⟩ := p_28
    dsimp only [rs]
    refine j_aload_n dX11_feed_31 rfl ?_
    refine j_getR dX11_feed_32 fl_X11_10 rfl (cwK cw 0 (c := 12) rfl rfl) (cwO cw 0 0 1 (by decide)) ?_
    refine j_iload_n dX11_feed_35 rfl ?_
    refine j_callV1 dX11_feed_36 vl_X11_111 (c_rdAddS (h := (rdH (rdH h (b 1) (b 11) m p 4) (b 1) (b 11) (m + 4) q 4)) (m := m + 8) _ (cwK cw 1 (c := 6) rfl rfl) (cwK cw 11 (c := 14) rfl rfl) (cwN cw 11 (c := 400) rfl rfl) (by omega) (cwO cw 1 0 11 (by decide)) rdH_l) (cwK cw 1 (c := 6) rfl rfl) rfl (by decide) (by omega) (by omega) (Nat.le_of_ble_eq_true rfl) (fun v_36 u_36 p_36 => ?_)
    obtain ⟨rfl, rfl⟩ := p_36
    dsimp only [rs]
    refine j_aload_n dX11_feed_39 rfl ?_
    refine j_getR dX11_feed_40 fl_X11_10 rfl (cwK cw 0 (c := 12) rfl rfl) (cwO cw 0 0 1 (by decide)) ?_
    refine j_iload dX11_feed_43 rfl ?_
    refine j_callV1 dX11_feed_45 vl_X11_111 (c_rdAddS (h := (rdH (rdH (rdH h (b 1) (b 11) m p 4) (b 1) (b 11) (m + 4) q 4) (b 1) (b 11) (m + 8) r 4)) (m := m + 12) _ (cwK cw 1 (c := 6) rfl rfl) (cwK cw 11 (c := 14) rfl rfl) (cwN cw 11 (c := 400) rfl rfl) (by omega) (cwO cw 1 0 11 (by decide)) rdH_l) (cwK cw 1 (c := 6) rfl rfl) rfl (by decide) (by omega) (by omega) (Nat.le_of_ble_eq_true rfl) (fun v_45 u_45 p_45 => ?_)
    obtain ⟨rfl, rfl⟩ := p_45
    dsimp only [rs]
    refine j_aload_n dX11_feed_48 rfl ?_
    refine j_getR dX11_feed_49 fl_X11_10 rfl (cwK cw 0 (c := 12) rfl rfl) (cwO cw 0 0 1 (by decide)) ?_
    refine j_iload dX11_feed_52 rfl ?_
    refine j_callV1 dX11_feed_54 vl_X11_111 (c_rdAddS (h := (rdH (rdH (rdH (rdH h (b 1) (b 11) m p 4) (b 1) (b 11) (m + 4) q 4) (b 1) (b 11) (m + 8) r 4) (b 1) (b 11) (m + 12) s 4)) (m := m + 16) _ (cwK cw 1 (c := 6) rfl rfl) (cwK cw 11 (c := 14) rfl rfl) (cwN cw 11 (c := 400) rfl rfl) (by omega) (cwO cw 1 0 11 (by decide)) rdH_l) (cwK cw 1 (c := 6) rfl rfl) rfl (by decide) (by omega) (by omega) (Nat.le_of_ble_eq_true rfl) (fun v_54 u_54 p_54 => ?_)
    obtain ⟨rfl, rfl⟩ := p_54
    dsimp only [rs]
    refine j_aload_n dX11_feed_57 rfl ?_
    refine j_getR dX11_feed_58 fl_X11_10 rfl (cwK cw 0 (c := 12) rfl rfl) (cwO cw 0 0 1 (by decide)) ?_
    refine j_getI dX11_feed_61 fl_X11_108 rfl (cwK cw 1 (c := 6) rfl rfl) ?_
    rw [rdH_l]
    exact j_ireturn dX11_feed_64 rfl rfl (Or.inr ⟨hm8, rfl, rfl⟩)
  · exact j_iconst (v := -1) dX11_feed_13 (by decide) (j_ireturn dX11_feed_14 rfl rfl (Or.inl ⟨by rw [show (380 : Int32) = nI 380 from rfl, nI_leI (by omega) (by decide)] at c_10; omega, rfl, rfl⟩))

