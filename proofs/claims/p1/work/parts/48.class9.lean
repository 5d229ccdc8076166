/-! ===== the system on a fresh object: erased, lines put in, taken out, moved, cells copied ===== -/
set_option maxRecDepth 20000 in
theorem l_er2 {h : Hp} {b : Nat → Nat} {w xw q xq a c d e : Nat} {i : Nat} (fc : FC h b w xw) (hq0 : hK h q = 0) (hxq0 : hK h xq = 0) (hi : i < 8) (he : e < 6) (fin : ∀ u, Ex h u ∧ Sh u q (b 36) (b 37) xq 8 6 → J mX11_erase 6 1 6 (px h b w xw ["java/lang/IndexOutOfBoundsException", "java/lang/IllegalArgumentException"] 0 0) 123 [some (vr (some (b 0))), some (vi (nI (a + 1))), some (vi (nI (c + 1))), some (vi (nI (d + 1))), some (vi (nI (e + 1))), some (vr (some q)), some (vi 0), some (vi (nI (i + 1))), none] [] u) : ∀ (n : Nat) (j : Nat) (u : Hp), 6 - j < n → (j ≤ 6 ∧ Ex h u ∧ Sh u q (b 36) (b 37) xq 8 6) → J mX11_erase 6 1 6 (px h b w xw ["java/lang/IndexOutOfBoundsException", "java/lang/IllegalArgumentException"] 0 0) 76 [some (vr (some (b 0))), some (vi (nI (a + 1))), some (vi (nI (c + 1))), some (vi (nI (d + 1))), some (vi (nI (e + 1))), some (vr (some q)), some (vi 0), some (vi (nI (i + 1))), some (vi (nI (j + 1)))] [] u := by
  intro n
  induction n with
  | zero => intro j u hlt; omega
  | succ n ih =>
    intro j u hlt hinv
    obtain ⟨hj, hE, hS⟩ := hinv
    refine j_iload dX11_erase_76 rfl ?_
    refine j_iload dX11_erase_78 rfl ?_
    refine j_icmp_gt 123 dX11_erase_80 (by decide) (fun c_80 => ?_) (fun c_80 => ?_)
    · exact j_lle (by simp [lle]) (fin _ ⟨hE, hS⟩)
    · have hlt2 : j ≤ e := by rw [nI_ltI (by omega) (by omega)] at c_80; omega
      refine j_iload dX11_erase_83 rfl ?_
      refine j_aload_n dX11_erase_85 rfl ?_
      refine j_getR dX11_erase_86 fl_X11_104 rfl (fcK (FC_ex fc hE) 0 rfl rfl) (fcW (FC_ex fc hE)) ?_
      refine j_iload dX11_erase_89 rfl ?_
      refine j_iload dX11_erase_91 rfl ?_
      refine j_callV2 dX11_erase_93 vl_X11_152 (c_at i j hi (by omega) (fcS (FC_ex fc hE))) (by first | exact hS.1 | exact (fcS (FC_ex fc hE)).1) rfl (by decide) (by omega) (by omega) (Nat.le_of_ble_eq_true rfl) (fun v_93 u_93 p_93 => ?_)
      obtain ⟨e_93, rfl⟩ := p_93
      rw [e_93]
      clear e_93
      dsimp only [rs]
      refine j_ifnull 103 dX11_erase_96 (by decide) (fun c_96 => ?_) (fun c_96 => ?_)
      · refine j_iconst (v := 0) dX11_erase_103 (by decide) ?_
        refine j_iadd dX11_erase_104 ?_
        refine j_istore dX11_erase_105 (by decide) ?_
        dsimp only [st1, st2, unL, List.set]
        refine j_aload dX11_erase_107 rfl ?_
        refine j_iload dX11_erase_109 rfl ?_
        refine j_iload dX11_erase_111 rfl ?_
        refine j_null dX11_erase_113 ?_
        refine j_callV3 dX11_erase_114 vl_X11_141 (c_put i j hi (by omega) (x := none) (fun v e => by cases e) hS) (by first | exact hS.1 | exact (fcS (FC_ex fc hE)).1) rfl (by decide) (by omega) (by omega) (Nat.le_of_ble_eq_true rfl) (fun v_114 u_114 p_114 => ?_)
        obtain ⟨rfl, rfl⟩ := p_114
        dsimp only [rs]
        refine j_iinc dX11_erase_117 rfl ?_
        dsimp only [st1, st2, unL, List.set]
        refine j_goto 76 dX11_erase_120 (by decide) ?_
        refine j_lle (lv' := [some (vr (some (b 0))), some (vi (nI (a + 1))), some (vi (nI (c + 1))), some (vi (nI (d + 1))), some (vi (nI (e + 1))), some (vr (some q)), some (vi 0), some (vi (nI (i + 1))), some (vi (nI (j + 1 + 1)))]) (by simp [lle, nI_1]) ?_
        exact ih (j + 1) _ (by omega) ⟨by omega, Fr_pO hE (Or.inr hxq0), Sh_pO hS⟩
      · exact absurd (fcX (FC_ex fc hE) (i * 6 + j) (by omega)) c_96

set_option maxRecDepth 20000 in
theorem l_er1 {h : Hp} {b : Nat → Nat} {w xw q xq a c d e : Nat} (fc : FC h b w xw) (hq0 : hK h q = 0) (hxq0 : hK h xq = 0) (hd : d < 8) (he : e < 6) (hce : c ≤ e) : ∀ (n : Nat) (i : Nat) (u : Hp), 8 - i < n → (i ≤ 8 ∧ Ex h u ∧ Sh u q (b 36) (b 37) xq 8 6) → J mX11_erase 6 1 6 (px h b w xw ["java/lang/IndexOutOfBoundsException", "java/lang/IllegalArgumentException"] 0 0) 67 [some (vr (some (b 0))), some (vi (nI (a + 1))), some (vi (nI (c + 1))), some (vi (nI (d + 1))), some (vi (nI (e + 1))), some (vr (some q)), some (vi 0), some (vi (nI (i + 1))), none] [] u := by
  intro n
  induction n with
  | zero => intro i u hlt; omega
  | succ n ih =>
    intro i u hlt hinv
    obtain ⟨hi, hE, hS⟩ := hinv
    refine j_iload dX11_erase_67 rfl ?_
    refine j_iload_n dX11_erase_69 rfl ?_
    refine j_icmp_gt 129 dX11_erase_70 (by decide) (fun c_70 => ?_) (fun c_70 => ?_)
    · refine j_aload_n dX11_erase_129 rfl ?_
      refine j_aload dX11_erase_130 rfl ?_
      refine j_callV1 dX11_erase_132 vl_X11_145 (d_step (FS_fr (FS_fc fc) hE (fun z => z) (fun z => z))) (fcK (FC_ex fc hE) 0 rfl rfl) rfl (by decide) (by omega) (by omega) (Nat.le_of_ble_eq_true rfl) (fun v_132 u_132 p_132 => ?_)
      obtain ⟨rfl, rfl⟩ := p_132
      dsimp only [rs]
      refine j_iload dX11_erase_135 rfl ?_
      exact j_ireturn dX11_erase_137 rfl rfl ⟨stp11_fr (frE hE), rfl, rfl⟩
    · have hlt2 : i ≤ d := by rw [nI_ltI (by omega) (by omega)] at c_70; omega
      refine j_iload_n dX11_erase_73 rfl ?_
      refine j_istore dX11_erase_74 (by decide) ?_
      dsimp only [st1, st2, unL, List.set]
      refine l_er2 fc hq0 hxq0 (by omega) he (fun u2 hu2 => ?_) 7 c _ (by omega) ⟨by omega, hE, hS⟩
      refine j_iinc dX11_erase_123 rfl ?_
      dsimp only [st1, st2, unL, List.set]
      refine j_goto 67 dX11_erase_126 (by decide) ?_
      refine j_lle (lv' := [some (vr (some (b 0))), some (vi (nI (a + 1))), some (vi (nI (c + 1))), some (vi (nI (d + 1))), some (vi (nI (e + 1))), some (vr (some q)), some (vi 0), some (vi (nI (i + 1 + 1))), none]) (by simp [lle, nI_1]) ?_
      exact ih (i + 1) _ (by omega) ⟨by omega, hu2⟩

set_option maxRecDepth 20000 in
theorem d_erase {h : Hp} {b : Nat → Nat} {w xw : Nat} (x y z v : Int32) (fc : FC h b w xw) : ConX mX11_erase 6 3 330 [vr (some (b 0)), vi x, vi y, vi z, vi v] h (px h b w xw ["java/lang/IndexOutOfBoundsException", "java/lang/IllegalArgumentException"] (erT x y z v) (0)) := by
  refine con_ofX rfl (Nat.le_of_ble_eq_true rfl) (by decide) (by decide) ?_
  show J mX11_erase 6 3 330 _ 0 [some (vr (some (b 0))), some (vi x), some (vi y), some (vi z), some (vi v), none, none, none, none] [] h
  refine j_aload_n dX11_erase_0 rfl ?_
  refine j_getR dX11_erase_1 fl_X11_104 rfl (fcK fc 0 rfl rfl) (fcW fc) ?_
  refine j_iload_n dX11_erase_4 rfl ?_
  refine j_iload_n dX11_erase_5 rfl ?_
  refine j_callV2 dX11_erase_6 vl_X11_113 (c_has _ _ (fcS fc)) (fcS fc).1 rfl (by decide) (by omega) (by omega) (Nat.le_of_ble_eq_true rfl) (fun v_6 u_6 p_6 => ?_)
  obtain ⟨e_6, rfl⟩ := p_6
  rw [e_6]
  clear e_6
  dsimp only [rs]
  refine j_if_eq 25 dX11_erase_9 (by decide) (fun c_9 => ?_) (fun c_9 => ?_)
  · have eq : erT x y z v = 1 := by rw [erT, if_neg (fun k => by first | exact b2_0.mp c_9 k.1 | exact b2_0.mp (Classical.not_not.mp c_22) k.2)]
    exact j_throw (E := "java/lang/IndexOutOfBoundsException") ⟨117, 119, by decide, dX11_erase_25, dX11_erase_28, dX11_erase_29, dX11_erase_32⟩ (by omega) (by omega) (Nat.le_of_ble_eq_true rfl) ⟨Fr_rf, by rw [eq]; decide, by rw [eq]; rfl⟩
  · refine j_aload_n dX11_erase_12 rfl ?_
    refine j_getR dX11_erase_13 fl_X11_104 rfl (fcK fc 0 rfl rfl) (fcW fc) ?_
    refine j_iload_n dX11_erase_16 rfl ?_
    refine j_iload dX11_erase_17 rfl ?_
    refine j_callV2 dX11_erase_19 vl_X11_113 (c_has _ _ (fcS fc)) (fcS fc).1 rfl (by decide) (by omega) (by omega) (Nat.le_of_ble_eq_true rfl) (fun v_19 u_19 p_19 => ?_)
    obtain ⟨e_19, rfl⟩ := p_19
    rw [e_19]
    clear e_19
    dsimp only [rs]
    refine j_if_ne 33 dX11_erase_22 (by decide) (fun c_22 => ?_) (fun c_22 => ?_)
    · have qq : inSh 8 6 x y ∧ inSh 8 6 z v := ⟨b2_nn.mp c_9, b2_n.mp c_22⟩
      refine j_iload_n dX11_erase_33 rfl ?_
      refine j_iload_n dX11_erase_34 rfl ?_
      refine j_icmp_lt 44 dX11_erase_35 (by decide) (fun c_35 => ?_) (fun c_35 => ?_)
      · have eq : erT x y z v = 2 := by rw [erT, if_pos qq, if_pos (by simp only [le_i, lt_i] at *; omega)]
        exact j_throw (E := "java/lang/IllegalArgumentException") ⟨127, 129, by decide, dX11_erase_44, dX11_erase_47, dX11_erase_48, dX11_erase_51⟩ (by omega) (by omega) (Nat.le_of_ble_eq_true rfl) ⟨Fr_rf, by rw [eq]; decide, by rw [eq]; rfl⟩
      · refine j_iload dX11_erase_38 rfl ?_
        refine j_iload_n dX11_erase_40 rfl ?_
        refine j_icmp_ge 52 dX11_erase_41 (by decide) (fun c_41 => ?_) (fun c_41 => ?_)
        · have ql : ¬ (z < x ∨ v < y) := by simp only [le_i, lt_i] at *; omega
          rw [show erT x y z v = 0 by rw [erT, if_pos qq, if_neg ql]]
          obtain ⟨a0, ha0, hv, -⟩ := nI_ex (x := x) (n := 8) (by simp only [inSh] at qq; omega) (by simp only [inSh] at qq; omega)
          subst hv
          obtain ⟨a, rfl⟩ : ∃ a, a0 = a + 1 := ⟨a0 - 1, by simp only [inSh, nI_toInt (n := a0) (by omega)] at qq; omega⟩
          obtain ⟨c0, hc0, hv, -⟩ := nI_ex (x := y) (n := 6) (by simp only [inSh] at qq; omega) (by simp only [inSh] at qq; omega)
          subst hv
          obtain ⟨c, rfl⟩ : ∃ a, c0 = a + 1 := ⟨c0 - 1, by simp only [inSh, nI_toInt (n := c0) (by omega)] at qq; omega⟩
          obtain ⟨d0, hd0, hv, -⟩ := nI_ex (x := z) (n := 8) (by simp only [inSh] at qq; omega) (by simp only [inSh] at qq; omega)
          subst hv
          obtain ⟨d, rfl⟩ : ∃ a, d0 = a + 1 := ⟨d0 - 1, by simp only [inSh, nI_toInt (n := d0) (by omega)] at qq; omega⟩
          obtain ⟨e0, he0, hv, -⟩ := nI_ex (x := v) (n := 6) (by simp only [inSh] at qq; omega) (by simp only [inSh] at qq; omega)
          subst hv
          obtain ⟨e, rfl⟩ : ∃ a, e0 = a + 1 := ⟨e0 - 1, by simp only [inSh, nI_toInt (n := e0) (by omega)] at qq; omega⟩
          simp only [inSh, nI_toInt (n := a + 1) (by omega), nI_toInt (n := c + 1) (by omega), nI_toInt (n := d + 1) (by omega), nI_toInt (n := e + 1) (by omega)] at qq
          have hce : c ≤ e := by rw [nI_leI (by omega) (by omega)] at c_41; omega
          refine j_aload_n dX11_erase_52 rfl ?_
          refine j_getR dX11_erase_53 fl_X11_104 rfl (fcK fc 0 rfl rfl) (fcW fc) ?_
          refine j_callV0 dX11_erase_56 vl_X11_100 (c_twin (fcS fc) (fcCel fc)) (fcS fc).1 rfl (by decide) (by omega) (by omega) (Nat.le_of_ble_eq_true rfl) (fun v_56 u_56 p_56 => ?_)
          obtain ⟨q, xq, rfl, hq0, hxq0, hS2, hEx, -⟩ := p_56
          dsimp only [rs]
          refine j_astore dX11_erase_59 (by decide) ?_
          dsimp only [st1, st2, unL, List.set]
          refine j_iconst (v := 0) dX11_erase_61 (by decide) ?_
          refine j_istore dX11_erase_62 (by decide) ?_
          dsimp only [st1, st2, unL, List.set]
          refine j_iload_n dX11_erase_64 rfl ?_
          refine j_istore dX11_erase_65 (by decide) ?_
          dsimp only [st1, st2, unL, List.set]
          refine j_lle (lv' := [some (vr (some (b 0))), some (vi (nI (a + 1))), some (vi (nI (c + 1))), some (vi (nI (d + 1))), some (vi (nI (e + 1))), some (vr (some q)), some (vi 0), some (vi (nI (a + 1))), none]) (by simp [lle]) ?_
          exact l_er1 fc hq0 hxq0 (by omega) (by omega) hce 9 a _ (by omega) ⟨by omega, hEx, hS2⟩
        · have eq : erT x y z v = 2 := by rw [erT, if_pos qq, if_pos (by simp only [le_i, lt_i] at *; omega)]
          exact j_throw (E := "java/lang/IllegalArgumentException") ⟨127, 129, by decide, dX11_erase_44, dX11_erase_47, dX11_erase_48, dX11_erase_51⟩ (by omega) (by omega) (Nat.le_of_ble_eq_true rfl) ⟨Fr_rf, by rw [eq]; decide, by rw [eq]; rfl⟩
    · have eq : erT x y z v = 1 := by rw [erT, if_neg (fun k => by first | exact b2_0.mp c_9 k.1 | exact b2_0.mp (Classical.not_not.mp c_22) k.2)]
      exact j_throw (E := "java/lang/IndexOutOfBoundsException") ⟨117, 119, by decide, dX11_erase_25, dX11_erase_28, dX11_erase_29, dX11_erase_32⟩ (by omega) (by omega) (Nat.le_of_ble_eq_true rfl) ⟨Fr_rf, by rw [eq]; decide, by rw [eq]; rfl⟩

def insF (f : Nat → Int32) (a : Nat) (x : Int32) (n : Nat) : Nat → Int32 := fun j => if j < n then (if j < a then f j else if j = a then x else f (j - 1)) else 0
def remF (f : Nat → Int32) (a n : Nat) : Nat → Int32 := fun j => if j < n then (if j < a then f j else f (j + 1)) else 0
theorem insF_s {f : Nat → Int32} {a i : Nat} {x v : Int32} (hv : v = if i < a then f i else if i = a then x else f (i - 1)) : upd (insF f a x i) i v = insF f a x (i + 1) := by
  funext j
  by_cases e : j = i
  · subst e; simp [upd, insF, hv]
  · simp only [upd, if_neg e, insF]
    by_cases q : j < i
    · rw [if_pos q, if_pos (show j < i + 1 by omega)]
    · rw [if_neg q, if_neg (show ¬ j < i + 1 by omega)]
theorem remF_s {f : Nat → Int32} {a i : Nat} {v : Int32} (hv : v = if i < a then f i else f (i + 1)) : upd (remF f a i) i v = remF f a (i + 1) := by
  funext j
  by_cases e : j = i
  · subst e; simp [upd, remF, hv]
  · simp only [upd, if_neg e, remF]
    by_cases q : j < i
    · rw [if_pos q, if_pos (show j < i + 1 by omega)]
    · rw [if_neg q, if_neg (show ¬ j < i + 1 by omega)]
set_option maxRecDepth 20000 in
theorem l_with {h : Hp} {la a m q : Nat} {x : Int32} (k1 : hK h la = 15) (k2 : hN h la = m) (hm : m ≤ 32) (hq : hK h q = 0) (ha : a ≤ m) : ∀ (n : Nat) (i : Nat), m + 1 - i < n → (i ≤ m + 1) → J mX11_with 1 0 0 (nx (fun v u => v = some (vr (some q)) ∧ u = (sI (nw h q 15 (m + 1)) q (insF (hI h la) a x (m + 1))))) 10 [some (vr (some la)), some (vi (nI (a + 1))), some (vi x), some (vr (some q)), some (vi (nI i)), none] [] (sI (nw h q 15 (m + 1)) q (insF (hI h la) a x i)) := by
  intro n
  induction n with
  | zero => intro i hlt; omega
  | succ n ih =>
    intro i hlt hinv
    have hne : la ≠ q := by rintro rfl; omega
    have kl : hK (nw h q 15 (m + 1)) la = 15 := by rw [hK_nw, if_neg hne]; exact k1
    have nl : hN (nw h q 15 (m + 1)) la = m := by rw [hN_nw, if_neg hne]; exact k2
    have il : ∀ f, hI (sI (nw h q 15 (m + 1)) q f) la = hI h la := fun f => by rw [hI_sI, if_neg hne]; funext j; rw [hI_nw, if_neg hne]
    refine j_iload dX11_with_10 rfl ?_
    refine j_aload_n dX11_with_12 rfl ?_
    refine j_alen dX11_with_13 (t := 1) (show hK (nw h q 15 (m + 1)) q = 15 by rw [hK_nw, if_pos rfl]) (by decide) ?_
    rw [show hN (sI (nw h q 15 (m + 1)) q (insF (hI h la) a x i)) q = m + 1 by show hN (nw h q 15 (m + 1)) q = m + 1; rw [hN_nw, if_pos rfl]]
    refine j_icmp_ge 67 dX11_with_14 (by decide) (fun c_14 => ?_) (fun c_14 => ?_)
    · have he : i = m + 1 := by rw [nI_leI (by omega) (by omega)] at c_14; omega
      subst he
      refine j_aload_n dX11_with_67 rfl ?_
      exact j_areturn dX11_with_68 rfl rfl (⟨rfl, rfl⟩)
    · have hlt2 : i < m + 1 := by rw [nI_leI (by omega) (by omega)] at c_14; omega
      refine j_iload dX11_with_17 rfl ?_
      refine j_iload_n dX11_with_19 rfl ?_
      refine j_iconst (v := 1) dX11_with_20 (by decide) ?_
      refine j_isub dX11_with_21 ?_
      rw [nI_pred]
      refine j_icmp_ge 30 dX11_with_22 (by decide) (fun c_22 => ?_) (fun c_22 => ?_)
      · have hia : a ≤ i := by rw [nI_leI (by omega) (by omega)] at c_22; omega
        refine j_iload dX11_with_30 rfl ?_
        refine j_iconst (v := 1) dX11_with_32 (by decide) ?_
        refine j_isub dX11_with_33 ?_
        refine j_istore dX11_with_34 (by decide) ?_
        dsimp only [st1, st2, unL, List.set]
        refine j_aload_n dX11_with_36 rfl ?_
        refine j_iload dX11_with_37 rfl ?_
        refine j_iload dX11_with_39 rfl ?_
        refine j_iload_n dX11_with_41 rfl ?_
        refine j_iconst (v := 1) dX11_with_42 (by decide) ?_
        refine j_isub dX11_with_43 ?_
        rw [nI_pred]
        refine j_icmp_eq 52 dX11_with_44 (by decide) (fun c_44 => ?_) (fun c_44 => ?_)
        · have hie : i = a := by
            first
            | (have w_ := c_44; rw [nI_eq (by omega) (by omega)] at w_; exact w_)
            | exact absurd (nI_pos' (by omega)) c_49
            | (have w_ := c_44; rw [nI_eq (by omega) (by omega)] at w_; have w2_ := c_49; rw [li_1, pk_sub (by omega)] at w2_; exact absurd (nI_pos' (by omega)) w2_)
          refine j_iload_n dX11_with_52 rfl ?_
          refine j_goto 60 dX11_with_53 (by decide) ?_
          refine j_iast i dX11_with_60 (show hK (nw h q 15 (m + 1)) q = 15 by rw [hK_nw, if_pos rfl]) rfl (by show i < hN (nw h q 15 (m + 1)) q; rw [hN_nw, if_pos rfl]; exact hlt2) (by show hN (nw h q 15 (m + 1)) q < _; rw [hN_nw, if_pos rfl]; omega) ?_
          rw [pI_sI, insF_s (by first | (rw [if_pos hia]; done) | (rw [if_neg (by omega), if_pos hie]; done) | rw [if_neg (by omega), if_neg hie])]
          refine j_iinc dX11_with_61 rfl ?_
          dsimp only [st1, st2, unL, List.set]
          refine j_goto 10 dX11_with_64 (by decide) ?_
          refine j_lle (lv' := [some (vr (some la)), some (vi (nI (a + 1))), some (vi x), some (vr (some q)), some (vi (nI (i + 1))), none]) (by simp [lle, nI_1]) ?_
          exact ih (i + 1) (by omega) (by omega)
        · refine j_iload dX11_with_47 rfl ?_
          refine j_if_ge 56 dX11_with_49 (by decide) (fun c_49 => ?_) (fun c_49 => ?_)
          · have hie : i ≠ a := fun e => c_44 (by rw [e])
            refine j_aload_n dX11_with_56 rfl ?_
            refine j_iload dX11_with_57 rfl ?_
            first
              | refine j_iald i dX11_with_59 kl rfl (by show i < hN (nw h q 15 (m + 1)) la; rw [nl]; omega) (by show hN (nw h q 15 (m + 1)) la < _; rw [nl]; omega) ?_
              | refine j_iald (i - 1) dX11_with_59 kl (by rw [li_1, pk_sub (by omega)]) (by show i - 1 < hN (nw h q 15 (m + 1)) la; rw [nl]; omega) (by show hN (nw h q 15 (m + 1)) la < _; rw [nl]; omega) ?_
            rw [il]
            refine j_iast i dX11_with_60 (show hK (nw h q 15 (m + 1)) q = 15 by rw [hK_nw, if_pos rfl]) rfl (by show i < hN (nw h q 15 (m + 1)) q; rw [hN_nw, if_pos rfl]; exact hlt2) (by show hN (nw h q 15 (m + 1)) q < _; rw [hN_nw, if_pos rfl]; omega) ?_
            rw [pI_sI, insF_s (by first | (rw [if_pos hia]; done) | (rw [if_neg (by omega), if_pos hie]; done) | rw [if_neg (by omega), if_neg hie])]
            refine j_iinc dX11_with_61 rfl ?_
            dsimp only [st1, st2, unL, List.set]
            refine j_goto 10 dX11_with_64 (by decide) ?_
            refine j_lle (lv' := [some (vr (some la)), some (vi (nI (a + 1))), some (vi x), some (vr (some q)), some (vi (nI (i + 1))), none]) (by simp [lle, nI_1]) ?_
            exact ih (i + 1) (by omega) (by omega)
          · have hie : i = a := by
              first
              | (have w_ := c_44; rw [nI_eq (by omega) (by omega)] at w_; exact w_)
              | exact absurd (nI_pos' (by omega)) c_49
              | (have w_ := c_44; rw [nI_eq (by omega) (by omega)] at w_; have w2_ := c_49; rw [li_1, pk_sub (by omega)] at w2_; exact absurd (nI_pos' (by omega)) w2_)
            refine j_iload_n dX11_with_52 rfl ?_
            refine j_goto 60 dX11_with_53 (by decide) ?_
            refine j_iast i dX11_with_60 (show hK (nw h q 15 (m + 1)) q = 15 by rw [hK_nw, if_pos rfl]) rfl (by show i < hN (nw h q 15 (m + 1)) q; rw [hN_nw, if_pos rfl]; exact hlt2) (by show hN (nw h q 15 (m + 1)) q < _; rw [hN_nw, if_pos rfl]; omega) ?_
            rw [pI_sI, insF_s (by first | (rw [if_pos hia]; done) | (rw [if_neg (by omega), if_pos hie]; done) | rw [if_neg (by omega), if_neg hie])]
            refine j_iinc dX11_with_61 rfl ?_
            dsimp only [st1, st2, unL, List.set]
            refine j_goto 10 dX11_with_64 (by decide) ?_
            refine j_lle (lv' := [some (vr (some la)), some (vi (nI (a + 1))), some (vi x), some (vr (some q)), some (vi (nI (i + 1))), none]) (by simp [lle, nI_1]) ?_
            exact ih (i + 1) (by omega) (by omega)
      · have hia : i < a := by rw [nI_leI (by omega) (by omega)] at c_22; omega
        refine j_iload dX11_with_25 rfl ?_
        refine j_goto 34 dX11_with_27 (by decide) ?_
        refine j_istore dX11_with_34 (by decide) ?_
        dsimp only [st1, st2, unL, List.set]
        refine j_aload_n dX11_with_36 rfl ?_
        refine j_iload dX11_with_37 rfl ?_
        refine j_iload dX11_with_39 rfl ?_
        refine j_iload_n dX11_with_41 rfl ?_
        refine j_iconst (v := 1) dX11_with_42 (by decide) ?_
        refine j_isub dX11_with_43 ?_
        rw [nI_pred]
        refine j_icmp_eq 52 dX11_with_44 (by decide) (fun c_44 => ?_) (fun c_44 => ?_)
        · have hie : i = a := by
            first
            | (have w_ := c_44; rw [nI_eq (by omega) (by omega)] at w_; exact w_)
            | exact absurd (nI_pos' (by omega)) c_49
            | (have w_ := c_44; rw [nI_eq (by omega) (by omega)] at w_; have w2_ := c_49; rw [li_1, pk_sub (by omega)] at w2_; exact absurd (nI_pos' (by omega)) w2_)
          refine j_iload_n dX11_with_52 rfl ?_
          refine j_goto 60 dX11_with_53 (by decide) ?_
          refine j_iast i dX11_with_60 (show hK (nw h q 15 (m + 1)) q = 15 by rw [hK_nw, if_pos rfl]) rfl (by show i < hN (nw h q 15 (m + 1)) q; rw [hN_nw, if_pos rfl]; exact hlt2) (by show hN (nw h q 15 (m + 1)) q < _; rw [hN_nw, if_pos rfl]; omega) ?_
          rw [pI_sI, insF_s (by first | (rw [if_pos hia]; done) | (rw [if_neg (by omega), if_pos hie]; done) | rw [if_neg (by omega), if_neg hie])]
          refine j_iinc dX11_with_61 rfl ?_
          dsimp only [st1, st2, unL, List.set]
          refine j_goto 10 dX11_with_64 (by decide) ?_
          refine j_lle (lv' := [some (vr (some la)), some (vi (nI (a + 1))), some (vi x), some (vr (some q)), some (vi (nI (i + 1))), none]) (by simp [lle, nI_1]) ?_
          exact ih (i + 1) (by omega) (by omega)
        · refine j_iload dX11_with_47 rfl ?_
          refine j_if_ge 56 dX11_with_49 (by decide) (fun c_49 => ?_) (fun c_49 => ?_)
          · have hie : i ≠ a := fun e => c_44 (by rw [e])
            refine j_aload_n dX11_with_56 rfl ?_
            refine j_iload dX11_with_57 rfl ?_
            first
              | refine j_iald i dX11_with_59 kl rfl (by show i < hN (nw h q 15 (m + 1)) la; rw [nl]; omega) (by show hN (nw h q 15 (m + 1)) la < _; rw [nl]; omega) ?_
              | refine j_iald (i - 1) dX11_with_59 kl (by rw [li_1, pk_sub (by omega)]) (by show i - 1 < hN (nw h q 15 (m + 1)) la; rw [nl]; omega) (by show hN (nw h q 15 (m + 1)) la < _; rw [nl]; omega) ?_
            rw [il]
            refine j_iast i dX11_with_60 (show hK (nw h q 15 (m + 1)) q = 15 by rw [hK_nw, if_pos rfl]) rfl (by show i < hN (nw h q 15 (m + 1)) q; rw [hN_nw, if_pos rfl]; exact hlt2) (by show hN (nw h q 15 (m + 1)) q < _; rw [hN_nw, if_pos rfl]; omega) ?_
            rw [pI_sI, insF_s (by first | (rw [if_pos hia]; done) | (rw [if_neg (by omega), if_pos hie]; done) | rw [if_neg (by omega), if_neg hie])]
            refine j_iinc dX11_with_61 rfl ?_
            dsimp only [st1, st2, unL, List.set]
            refine j_goto 10 dX11_with_64 (by decide) ?_
            refine j_lle (lv' := [some (vr (some la)), some (vi (nI (a + 1))), some (vi x), some (vr (some q)), some (vi (nI (i + 1))), none]) (by simp [lle, nI_1]) ?_
            exact ih (i + 1) (by omega) (by omega)
          · have hie : i = a := by
              first
              | (have w_ := c_44; rw [nI_eq (by omega) (by omega)] at w_; exact w_)
              | exact absurd (nI_pos' (by omega)) c_49
              | (have w_ := c_44; rw [nI_eq (by omega) (by omega)] at w_; have w2_ := c_49; rw [li_1, pk_sub (by omega)] at w2_; exact absurd (nI_pos' (by omega)) w2_)
            refine j_iload_n dX11_with_52 rfl ?_
            refine j_goto 60 dX11_with_53 (by decide) ?_
            refine j_iast i dX11_with_60 (show hK (nw h q 15 (m + 1)) q = 15 by rw [hK_nw, if_pos rfl]) rfl (by show i < hN (nw h q 15 (m + 1)) q; rw [hN_nw, if_pos rfl]; exact hlt2) (by show hN (nw h q 15 (m + 1)) q < _; rw [hN_nw, if_pos rfl]; omega) ?_
            rw [pI_sI, insF_s (by first | (rw [if_pos hia]; done) | (rw [if_neg (by omega), if_pos hie]; done) | rw [if_neg (by omega), if_neg hie])]
            refine j_iinc dX11_with_61 rfl ?_
            dsimp only [st1, st2, unL, List.set]
            refine j_goto 10 dX11_with_64 (by decide) ?_
            refine j_lle (lv' := [some (vr (some la)), some (vi (nI (a + 1))), some (vi x), some (vr (some q)), some (vi (nI (i + 1))), none]) (by simp [lle, nI_1]) ?_
            exact ih (i + 1) (by omega) (by omega)

set_option maxRecDepth 20000 in
theorem c_with {h : Hp} {la a m : Nat} (x : Int32) (k1 : hK h la = 15) (k2 : hN h la = m) (hm : m ≤ 32) (ha : a ≤ m) : Con mX11_with 1 1 33 [vr (some la), vi (nI (a + 1)), vi x] h (fun v u => ∃ q, hK h q = 0 ∧ v = some (vr (some q)) ∧ u = (sI (nw h q 15 (m + 1)) q (insF (hI h la) a x (m + 1)))) := by
  refine con_of rfl (Nat.le_of_ble_eq_true rfl) (by decide) ?_
  show J mX11_with 1 1 33 _ 0 [some (vr (some la)), some (vi (nI (a + 1))), some (vi x), none, none, none] [] h
  refine j_aload_n dX11_with_0 rfl ?_
  refine j_alen dX11_with_1 k1 (by decide) ?_
  refine j_iconst (v := 1) dX11_with_2 (by decide) ?_
  refine j_iadd dX11_with_3 ?_
  refine j_mono (mc' := 0 + 1) (ms' := 0 + m + 1) (by omega) (by omega) ?_
  refine j_newI (m + 1) dX11_with_4 ac_int (by rw [k2, nI_1]) (by omega) (fun q_4 hq_4 => ?_)
  refine j_astore_n dX11_with_6 (by decide) ?_
  dsimp only [st1, st2, unL, List.set]
  refine j_iconst (v := 0) dX11_with_7 (by decide) ?_
  refine j_istore dX11_with_8 (by decide) ?_
  dsimp only [st1, st2, unL, List.set]
  refine j_lle (lv' := [some (vr (some la)), some (vi (nI (a + 1))), some (vi x), some (vr (some q_4)), some (vi (nI 0)), none]) (by simp [lle]; rfl) ?_
  have z : (sI (nw h q_4 15 (m + 1)) q_4 (insF (hI h la) a x 0)) = nw h q_4 15 (m + 1) := by
    rw [show insF (hI h la) a x 0 = hI (nw h q_4 15 (m + 1)) q_4 by funext j; rw [insF, if_neg (by omega), hI_nw, if_pos rfl], sI_self]
  rw [← z]
  refine j_mono (mc' := 0) (ms' := 0) (by omega) (by omega) ?_
  refine j_post (fun o_ u_ hp_ => ?_) (l_with k1 k2 hm hq_4 ha (m + 2) 0 (by omega) (by omega))
  cases o_ with
  | inl v_ => exact ⟨q_4, hq_4, hp_.1, hp_.2⟩
  | inr E_ => exact hp_

set_option maxRecDepth 20000 in
theorem l_without {h : Hp} {la a m q : Nat} (k1 : hK h la = 15) (k2 : hN h la = m + 1) (hm : m ≤ 32) (hq : hK h q = 0) (ha : a ≤ m) : ∀ (n : Nat) (i : Nat), m - i < n → (i ≤ m) → J mX11_without 2 0 0 (nx (fun v u => v = some (vr (some q)) ∧ u = (sI (nw h q 15 m) q (remF (hI h la) a m)))) 13 [some (vr (some la)), some (vi (nI (a + 1))), some (vr (some q)), some (vi (nI i))] [] (sI (nw h q 15 m) q (remF (hI h la) a i)) := by
  intro n
  induction n with
  | zero => intro i hlt; omega
  | succ n ih =>
    intro i hlt hinv
    have hne : la ≠ q := by rintro rfl; omega
    have kl : hK (nw h q 15 m) la = 15 := by rw [hK_nw, if_neg hne]; exact k1
    have nl : hN (nw h q 15 m) la = m + 1 := by rw [hN_nw, if_neg hne]; exact k2
    have il : ∀ f, hI (sI (nw h q 15 m) q f) la = hI h la := fun f => by rw [hI_sI, if_neg hne]; funext j; rw [hI_nw, if_neg hne]
    refine j_iload_n dX11_without_13 rfl ?_
    refine j_aload_n dX11_without_14 rfl ?_
    refine j_alen dX11_without_15 (t := 1) (show hK (nw h q 15 m) q = 15 by rw [hK_nw, if_pos rfl]) (by decide) ?_
    rw [show hN (sI (nw h q 15 m) q (remF (hI h la) a i)) q = m by show hN (nw h q 15 m) q = m; rw [hN_nw, if_pos rfl]]
    refine j_icmp_ge 44 dX11_without_16 (by decide) (fun c_16 => ?_) (fun c_16 => ?_)
    · have he : i = m := by rw [nI_leI (by omega) (by omega)] at c_16; omega
      subst he
      refine j_aload_n dX11_without_44 rfl ?_
      exact j_areturn dX11_without_45 rfl rfl (⟨rfl, rfl⟩)
    · have hlt2 : i < m := by rw [nI_leI (by omega) (by omega)] at c_16; omega
      refine j_aload_n dX11_without_19 rfl ?_
      refine j_iload_n dX11_without_20 rfl ?_
      refine j_aload_n dX11_without_21 rfl ?_
      refine j_iload_n dX11_without_22 rfl ?_
      refine j_iload_n dX11_without_23 rfl ?_
      refine j_iconst (v := 1) dX11_without_24 (by decide) ?_
      refine j_isub dX11_without_25 ?_
      rw [nI_pred]
      refine j_icmp_ge 33 dX11_without_26 (by decide) (fun c_26 => ?_) (fun c_26 => ?_)
      · have hia : a ≤ i := by rw [nI_leI (by omega) (by omega)] at c_26; omega
        refine j_iload_n dX11_without_33 rfl ?_
        refine j_iconst (v := 1) dX11_without_34 (by decide) ?_
        refine j_iadd dX11_without_35 ?_
        first
          | refine j_iald i dX11_without_36 kl rfl (by show i < hN (nw h q 15 m) la; rw [nl]; omega) (by show hN (nw h q 15 m) la < _; rw [nl]; omega) ?_
          | refine j_iald (i + 1) dX11_without_36 kl (by rw [nI_1]) (by show i + 1 < hN (nw h q 15 m) la; rw [nl]; omega) (by show hN (nw h q 15 m) la < _; rw [nl]; omega) ?_
        rw [il]
        refine j_iast i dX11_without_37 (show hK (nw h q 15 m) q = 15 by rw [hK_nw, if_pos rfl]) rfl (by show i < hN (nw h q 15 m) q; rw [hN_nw, if_pos rfl]; exact hlt2) (by show hN (nw h q 15 m) q < _; rw [hN_nw, if_pos rfl]; omega) ?_
        rw [pI_sI, remF_s (by first | (rw [if_pos hia]; done) | rw [if_neg (by omega)])]
        refine j_iinc dX11_without_38 rfl ?_
        dsimp only [st1, st2, unL, List.set]
        refine j_goto 13 dX11_without_41 (by decide) ?_
        refine j_lle (lv' := [some (vr (some la)), some (vi (nI (a + 1))), some (vr (some q)), some (vi (nI (i + 1)))]) (by simp [lle, nI_1]) ?_
        exact ih (i + 1) (by omega) (by omega)
      · have hia : i < a := by rw [nI_leI (by omega) (by omega)] at c_26; omega
        refine j_iload_n dX11_without_29 rfl ?_
        refine j_goto 36 dX11_without_30 (by decide) ?_
        first
          | refine j_iald i dX11_without_36 kl rfl (by show i < hN (nw h q 15 m) la; rw [nl]; omega) (by show hN (nw h q 15 m) la < _; rw [nl]; omega) ?_
          | refine j_iald (i + 1) dX11_without_36 kl (by rw [nI_1]) (by show i + 1 < hN (nw h q 15 m) la; rw [nl]; omega) (by show hN (nw h q 15 m) la < _; rw [nl]; omega) ?_
        rw [il]
        refine j_iast i dX11_without_37 (show hK (nw h q 15 m) q = 15 by rw [hK_nw, if_pos rfl]) rfl (by show i < hN (nw h q 15 m) q; rw [hN_nw, if_pos rfl]; exact hlt2) (by show hN (nw h q 15 m) q < _; rw [hN_nw, if_pos rfl]; omega) ?_
        rw [pI_sI, remF_s (by first | (rw [if_pos hia]; done) | rw [if_neg (by omega)])]
        refine j_iinc dX11_without_38 rfl ?_
        dsimp only [st1, st2, unL, List.set]
        refine j_goto 13 dX11_without_41 (by decide) ?_
        refine j_lle (lv' := [some (vr (some la)), some (vi (nI (a + 1))), some (vr (some q)), some (vi (nI (i + 1)))]) (by simp [lle, nI_1]) ?_
        exact ih (i + 1) (by omega) (by omega)

set_option maxRecDepth 20000 in
theorem c_without {h : Hp} {la a m : Nat} (k1 : hK h la = 15) (k2 : hN h la = m + 1) (hm : m ≤ 32) (ha : a ≤ m) : Con mX11_without 2 1 33 [vr (some la), vi (nI (a + 1))] h (fun v u => ∃ q, hK h q = 0 ∧ v = some (vr (some q)) ∧ u = (sI (nw h q 15 m) q (remF (hI h la) a m))) := by
  refine con_of rfl (Nat.le_of_ble_eq_true rfl) (by decide) ?_
  show J mX11_without 2 1 33 _ 0 [some (vr (some la)), some (vi (nI (a + 1))), none, none] [] h
  refine j_aload_n dX11_without_0 rfl ?_
  refine j_alen dX11_without_1 k1 (by decide) ?_
  rw [k2]
  refine j_iconst (v := 1) dX11_without_2 (by decide) ?_
  refine j_isub dX11_without_3 ?_
  rw [nI_pred]
  refine j_iconst (v := 0) dX11_without_4 (by decide) ?_
  refine j_mmax dX11_without_5 sl_X11_365 (by decide) (Nat.le_of_ble_eq_true rfl) ?_
  rw [show (if nI m < (0 : Int32) then 0 else nI m) = nI m from if_neg (nI_pos (by omega))]
  refine j_mono (mc' := 0 + 1) (ms' := 0 + m) (by omega) (by omega) ?_
  refine j_newI (m) dX11_without_8 ac_int rfl (by omega) (fun q_8 hq_8 => ?_)
  refine j_astore_n dX11_without_10 (by decide) ?_
  dsimp only [st1, st2, unL, List.set]
  refine j_iconst (v := 0) dX11_without_11 (by decide) ?_
  refine j_istore_n dX11_without_12 (by decide) ?_
  dsimp only [st1, st2, unL, List.set]
  refine j_lle (lv' := [some (vr (some la)), some (vi (nI (a + 1))), some (vr (some q_8)), some (vi (nI 0))]) (by simp [lle]; rfl) ?_
  have z : (sI (nw h q_8 15 m) q_8 (remF (hI h la) a 0)) = nw h q_8 15 m := by
    rw [show remF (hI h la) a 0 = hI (nw h q_8 15 m) q_8 by funext j; rw [remF, if_neg (by omega), hI_nw, if_pos rfl], sI_self]
  rw [← z]
  refine j_mono (mc' := 0) (ms' := 0) (by omega) (by omega) ?_
  refine j_post (fun o_ u_ hp_ => ?_) (l_without k1 k2 hm hq_8 ha (m + 1) 0 (by omega) (by omega))
  cases o_ with
  | inl v_ => exact ⟨q_8, hq_8, hp_.1, hp_.2⟩
  | inr E_ => exact hp_

set_option maxRecDepth 20000 in
theorem c_newcomer0 {h : Hp} {x : Nat} (k1 : hK h x = 12) : Con mX11_newcomer 1 0 0 [vr (some x), vi 0] h (fun v u => u = pI h x 16 (hI h x 16 + 1) ∧ v = some (vi (hI h x 16 + 1))) := by
  refine con_of rfl (Nat.le_of_ble_eq_true rfl) (by decide) ?_
  show J mX11_newcomer 1 0 0 _ 0 [some (vr (some x)), some (vi 0)] [] h
  refine j_iload_n dX11_newcomer_0 rfl ?_
  refine j_if_ne 19 dX11_newcomer_1 (by decide) (fun c_1 => ?_) (fun c_1 => ?_)
  · exact absurd c_1 (fun e => e rfl)
  · refine j_aload_n dX11_newcomer_4 rfl ?_
    refine j_dup dX11_newcomer_5 rfl ?_
    refine j_getI dX11_newcomer_6 fl_X11_81 rfl (by first | assumption | (simp only [hK_pI, hK_pG, hK_pO]; assumption) | (simp [hK_nw, hK_pI, hK_pG, hK_pO, *]; done)) ?_
    refine j_iconst (v := 1) dX11_newcomer_9 (by decide) ?_
    refine j_iadd dX11_newcomer_10 ?_
    refine j_putI dX11_newcomer_11 fl_X11_81 rfl rfl rfl (by first | assumption | (simp only [hK_pI, hK_pG, hK_pO]; assumption) | (simp [hK_nw, hK_pI, hK_pG, hK_pO, *]; done)) ?_
    refine j_aload_n dX11_newcomer_14 rfl ?_
    refine j_getI dX11_newcomer_15 fl_X11_81 rfl k1 ?_
    rw [hI_pI, if_pos ⟨rfl, rfl⟩]
    exact j_ireturn dX11_newcomer_18 rfl rfl (⟨rfl, rfl⟩)

set_option maxRecDepth 20000 in
theorem c_newcomer1 {h : Hp} {x : Nat} (k1 : hK h x = 12) : Con mX11_newcomer 1 0 0 [vr (some x), vi 1] h (fun v u => u = pI h x 17 (hI h x 17 + 1) ∧ v = some (vi (hI h x 17 + 1))) := by
  refine con_of rfl (Nat.le_of_ble_eq_true rfl) (by decide) ?_
  show J mX11_newcomer 1 0 0 _ 0 [some (vr (some x)), some (vi 1)] [] h
  refine j_iload_n dX11_newcomer_0 rfl ?_
  refine j_if_ne 19 dX11_newcomer_1 (by decide) (fun c_1 => ?_) (fun c_1 => ?_)
  · refine j_aload_n dX11_newcomer_19 rfl ?_
    refine j_dup dX11_newcomer_20 rfl ?_
    refine j_getI dX11_newcomer_21 fl_X11_84 rfl (by first | assumption | (simp only [hK_pI, hK_pG, hK_pO]; assumption) | (simp [hK_nw, hK_pI, hK_pG, hK_pO, *]; done)) ?_
    refine j_iconst (v := 1) dX11_newcomer_24 (by decide) ?_
    refine j_iadd dX11_newcomer_25 ?_
    refine j_putI dX11_newcomer_26 fl_X11_84 rfl rfl rfl (by first | assumption | (simp only [hK_pI, hK_pG, hK_pO]; assumption) | (simp [hK_nw, hK_pI, hK_pG, hK_pO, *]; done)) ?_
    refine j_aload_n dX11_newcomer_29 rfl ?_
    refine j_getI dX11_newcomer_30 fl_X11_84 rfl k1 ?_
    rw [hI_pI, if_pos ⟨rfl, rfl⟩]
    exact j_ireturn dX11_newcomer_33 rfl rfl (⟨rfl, rfl⟩)
  · exact absurd (by decide) c_1

