/-! ===== the system on a fresh object: fed, entered, erased; lines ===== -/
def shf : Nat → Int32
  | 0 => 24 | 1 => 16 | 2 => 8 | 3 => 0 | _ => -8
theorem shf_s {i : Nat} (hi : i < 4) : shf i + Int32.ofInt (-8) = shf (i + 1) := by
  have : i = 0 ∨ i = 1 ∨ i = 2 ∨ i = 3 := by omega
  rcases this with rfl | rfl | rfl | rfl <;> decide
theorem shf_n {i : Nat} (hi : i < 4) : ¬ shf i < 0 := by
  have : i = 0 ∨ i = 1 ∨ i = 2 ∨ i = 3 := by omega
  rcases this with rfl | rfl | rfl | rfl <;> decide
theorem nar_b (z : Int32) : vp_nar .byte z.toInt8.toInt32 = z.toInt8.toInt32 := by
  rw [vp_nar, pk_nb z]
set_option maxRecDepth 20000 in
theorem l_rdAdd {h : Hp} {r t m : Nat} {x : Int32} (k1 : hK h r = 6) (k2 : hK h t = 14) (k3 : hN h t = 400) (hm4 : m + 4 ≤ 400) : ∀ (n : Nat) (i : Nat) (u : Hp), 4 - i < n → (i ≤ 4 ∧ Fr (fun c => c = r ∨ c = t) h u ∧ hO u r 0 = some t ∧ hI u r 3 = nI (m + i)) → J mX5_add 1 0 0 (nx (fun v u => v = none ∧ Fr (fun c => c = r ∨ c = t) h u ∧ hO u r 0 = some t ∧ hI u r 3 = nI (m + 4))) 3 [some (vr (some r)), some (vi x), some (vi (shf i))] [] u := by
  intro n
  induction n with
  | zero => intro i u hlt; omega
  | succ n ih =>
    intro i u hlt hinv
    obtain ⟨hi, hF, o1, hl⟩ := hinv
    have g1 := Fr_K hF k1 (by decide)
    have g2 := Fr_K hF k2 (by decide)
    have g3 := Fr_N hF k2 (by decide) k3
    have hrt : r ≠ t := by rintro rfl; omega
    refine j_iload_n dX5_add_3 rfl ?_
    refine j_if_lt 46 dX5_add_4 (by decide) (fun c_4 => ?_) (fun c_4 => ?_)
    · have he : i = 4 := Classical.byContradiction fun z => absurd c_4 (shf_n (by omega))
      subst he
      exact j_return dX5_add_46 rfl ⟨rfl, hF, o1, hl⟩
    · have hi4 : i < 4 := Classical.byContradiction fun z => c_4 (by rw [show i = 4 by omega]; decide)
      refine j_aload_n dX5_add_7 rfl ?_
      refine j_getI dX5_add_8 fl_X5_24 rfl g1 ?_
      rw [hl]
      refine j_sipush (v := 400) dX5_add_11 (by decide) ?_
      refine j_icmp_ge 46 dX5_add_14 (by decide) (fun c_14 => ?_) (fun c_14 => ?_)
      · exact absurd c_14 (by rw [li_400, nI_leI (by decide) (by omega)]; omega)
      · refine j_aload_n dX5_add_17 rfl ?_
        refine j_getR dX5_add_18 fl_X5_9 rfl g1 o1 ?_
        refine j_aload_n dX5_add_21 rfl ?_
        refine j_getI dX5_add_22 fl_X5_24 rfl g1 ?_
        rw [hl]
        refine j_iload_n dX5_add_25 rfl ?_
        refine j_iload_n dX5_add_26 rfl ?_
        refine j_ishr dX5_add_27 ?_
        refine j_i2b dX5_add_28 ?_
        refine j_bast (m + i) dX5_add_29 g2 rfl (by rw [g3]; omega) (by rw [g3]; decide) (nar_b _) ?_
        refine j_aload_n dX5_add_30 rfl ?_
        refine j_dup dX5_add_31 rfl ?_
        refine j_getI dX5_add_32 fl_X5_24 rfl g1 ?_
        rw [show hI (pI u t (m + i) _) r 3 = nI (m + i) by rw [hI_pI, if_neg (fun e => hrt e.1)]; exact hl]
        refine j_iconst (v := 1) dX5_add_35 (by decide) ?_
        refine j_iadd dX5_add_36 ?_
        rw [nI_1]
        refine j_putI dX5_add_37 fl_X5_24 rfl rfl rfl g1 ?_
        refine j_iinc dX5_add_40 rfl ?_
        dsimp only [st1, st2, unL, List.set]
        refine j_goto 3 dX5_add_43 (by decide) ?_
        rw [shf_s hi4]
        exact ih (i + 1) _ (by omega) ⟨by omega, Fr_pI (Fr_pI hF (Or.inl (Or.inr rfl))) (Or.inl (Or.inl rfl)), o1, by rw [hI_pI, if_pos ⟨rfl, rfl⟩]; congr 1⟩

set_option maxRecDepth 20000 in
theorem c_rdAdd {h : Hp} {r t m : Nat} (x : Int32) (k1 : hK h r = 6) (k2 : hK h t = 14) (k3 : hN h t = 400) (hm4 : m + 4 ≤ 400) (o1 : hO h r 0 = some t) (hl : hI h r 3 = nI m) : Con mX5_add 1 0 0 [vr (some r), vi x] h (fun v u => v = none ∧ Fr (fun c => c = r ∨ c = t) h u ∧ hO u r 0 = some t ∧ hI u r 3 = nI (m + 4)) := by
  refine con_of rfl (Nat.le_of_ble_eq_true rfl) (by decide) ?_
  show J mX5_add 1 0 0 _ 0 [some (vr (some r)), some (vi x), none] [] h
  refine j_bipush (v := 24) dX5_add_0 (by decide) ?_
  refine j_istore_n dX5_add_2 (by decide) ?_
  dsimp only [st1, st2, unL, List.set]
  exact l_rdAdd k1 k2 k3 hm4 5 0 _ (by omega) ⟨by omega, Fr_rf, o1, hl⟩

set_option maxRecDepth 20000 in
theorem d_feed {h : Hp} {b : Nat → Nat} {w xw : Nat} (p q r s t : Int32) (fc : FC h b w xw) : Con mX11_feed 2 0 0 [vr (some (b 0)), vi p, vi q, vi r, vi s, vi t] h (fun v u => v = some (vi 20) ∧ Fr (CC b w xw) h u) := by
  refine con_of rfl (Nat.le_of_ble_eq_true rfl) (by decide) ?_
  show J mX11_feed 2 0 0 _ 0 [some (vr (some (b 0))), some (vi p), some (vi q), some (vi r), some (vi s), some (vi t)] [] h
  refine j_aload_n dX11_feed_0 rfl ?_
  refine j_getR dX11_feed_1 fl_X11_10 rfl (fcK fc 0 rfl rfl) (fcO fc 0 0 1 (by decide)) ?_
  refine j_getI dX11_feed_4 fl_X11_108 rfl (fcK fc 1 rfl rfl) ?_
  rw [fcI fc 1 3 (0) (by decide)]
  refine j_sipush (v := 380) dX11_feed_7 (by decide) ?_
  refine j_icmp_le 15 dX11_feed_10 (by decide) (fun c_10 => ?_) (fun c_10 => ?_)
  · have hF : Fr (fun c => c = b 1 ∨ c = b 11) h h := Fr_rf
    have o1 := fcO fc 1 0 11 (by decide)
    have hl : hI h (b 1) 3 = nI 0 := fcI fc 1 3 0 (by decide)
    refine j_aload_n dX11_feed_15 rfl ?_
    refine j_getR dX11_feed_16 fl_X11_10 rfl (fcK fc 0 rfl rfl) (fcO fc 0 0 1 (by decide)) ?_
    refine j_iload_n dX11_feed_19 rfl ?_
    refine j_callV1 dX11_feed_20 vl_X11_111 (c_rdAdd (m := 0) _ (Fr_K hF (fcK fc 1 (c := 6) rfl rfl) (by decide)) (Fr_K hF (fcK fc 11 (c := 14) rfl rfl) (by decide)) (Fr_N hF (fcK fc 11 (c := 14) rfl rfl) (by decide) (fcN fc 11 rfl rfl)) (by decide) o1 hl) (fcK fc 1 rfl rfl) rfl (by decide) (by omega) (by omega) (Nat.le_of_ble_eq_true rfl) (fun v_20 u_20 p_20 => ?_)
    obtain ⟨rfl, hF2, o1, hl⟩ := p_20
    replace hF := Fr_tr hF hF2
    clear hF2
    dsimp only [rs]
    refine j_aload_n dX11_feed_23 rfl ?_
    refine j_getR dX11_feed_24 fl_X11_10 rfl (Fr_K hF (fcK fc 0 (c := 12) rfl rfl) (by decide)) (Fr_O hF (fcK fc 0 (c := 12) rfl rfl) (by decide) (fun e => by rcases e with e | e; exact fcNe fc (i := 0) (j := 1) rfl rfl rfl e; exact fcNe fc (i := 0) (j := 11) rfl rfl rfl e) (fcO fc 0 0 1 (by decide))) ?_
    refine j_iload_n dX11_feed_27 rfl ?_
    refine j_callV1 dX11_feed_28 vl_X11_111 (c_rdAdd (m := 4) _ (Fr_K hF (fcK fc 1 (c := 6) rfl rfl) (by decide)) (Fr_K hF (fcK fc 11 (c := 14) rfl rfl) (by decide)) (Fr_N hF (fcK fc 11 (c := 14) rfl rfl) (by decide) (fcN fc 11 rfl rfl)) (by decide) o1 hl) (Fr_K hF (fcK fc 1 (c := 6) rfl rfl) (by decide)) rfl (by decide) (by omega) (by omega) (Nat.le_of_ble_eq_true rfl) (fun v_28 u_28 p_28 => ?_)
    obtain ⟨rfl, hF2, o1, hl⟩ := p_28
    replace hF := Fr_tr hF hF2
    clear hF2
    dsimp only [rs]
    refine j_aload_n dX11_feed_31 rfl ?_
    refine j_getR dX11_feed_32 fl_X11_10 rfl (Fr_K hF (fcK fc 0 (c := 12) rfl rfl) (by decide)) (Fr_O hF (fcK fc 0 (c := 12) rfl rfl) (by decide) (fun e => by rcases e with e | e; exact fcNe fc (i := 0) (j := 1) rfl rfl rfl e; exact fcNe fc (i := 0) (j := 11) rfl rfl rfl e) (fcO fc 0 0 1 (by decide))) ?_
    refine j_iload_n dX11_feed_35 rfl ?_
    refine j_callV1 dX11_feed_36 vl_X11_111 (c_rdAdd (m := 8) _ (Fr_K hF (fcK fc 1 (c := 6) rfl rfl) (by decide)) (Fr_K hF (fcK fc 11 (c := 14) rfl rfl) (by decide)) (Fr_N hF (fcK fc 11 (c := 14) rfl rfl) (by decide) (fcN fc 11 rfl rfl)) (by decide) o1 hl) (Fr_K hF (fcK fc 1 (c := 6) rfl rfl) (by decide)) rfl (by decide) (by omega) (by omega) (Nat.le_of_ble_eq_true rfl) (fun v_36 u_36 p_36 => ?_)
    obtain ⟨rfl, hF2, o1, hl⟩ := p_36
    replace hF := Fr_tr hF hF2
    clear hF2
    dsimp only [rs]
    refine j_aload_n dX11_feed_39 rfl ?_
    refine j_getR dX11_feed_40 fl_X11_10 rfl (Fr_K hF (fcK fc 0 (c := 12) rfl rfl) (by decide)) (Fr_O hF (fcK fc 0 (c := 12) rfl rfl) (by decide) (fun e => by rcases e with e | e; exact fcNe fc (i := 0) (j := 1) rfl rfl rfl e; exact fcNe fc (i := 0) (j := 11) rfl rfl rfl e) (fcO fc 0 0 1 (by decide))) ?_
    refine j_iload dX11_feed_43 rfl ?_
    refine j_callV1 dX11_feed_45 vl_X11_111 (c_rdAdd (m := 12) _ (Fr_K hF (fcK fc 1 (c := 6) rfl rfl) (by decide)) (Fr_K hF (fcK fc 11 (c := 14) rfl rfl) (by decide)) (Fr_N hF (fcK fc 11 (c := 14) rfl rfl) (by decide) (fcN fc 11 rfl rfl)) (by decide) o1 hl) (Fr_K hF (fcK fc 1 (c := 6) rfl rfl) (by decide)) rfl (by decide) (by omega) (by omega) (Nat.le_of_ble_eq_true rfl) (fun v_45 u_45 p_45 => ?_)
    obtain ⟨rfl, hF2, o1, hl⟩ := p_45
    replace hF := Fr_tr hF hF2
    clear hF2
    dsimp only [rs]
    refine j_aload_n dX11_feed_48 rfl ?_
    refine j_getR dX11_feed_49 fl_X11_10 rfl (Fr_K hF (fcK fc 0 (c := 12) rfl rfl) (by decide)) (Fr_O hF (fcK fc 0 (c := 12) rfl rfl) (by decide) (fun e => by rcases e with e | e; exact fcNe fc (i := 0) (j := 1) rfl rfl rfl e; exact fcNe fc (i := 0) (j := 11) rfl rfl rfl e) (fcO fc 0 0 1 (by decide))) ?_
    refine j_iload dX11_feed_52 rfl ?_
    refine j_callV1 dX11_feed_54 vl_X11_111 (c_rdAdd (m := 16) _ (Fr_K hF (fcK fc 1 (c := 6) rfl rfl) (by decide)) (Fr_K hF (fcK fc 11 (c := 14) rfl rfl) (by decide)) (Fr_N hF (fcK fc 11 (c := 14) rfl rfl) (by decide) (fcN fc 11 rfl rfl)) (by decide) o1 hl) (Fr_K hF (fcK fc 1 (c := 6) rfl rfl) (by decide)) rfl (by decide) (by omega) (by omega) (Nat.le_of_ble_eq_true rfl) (fun v_54 u_54 p_54 => ?_)
    obtain ⟨rfl, hF2, o1, hl⟩ := p_54
    replace hF := Fr_tr hF hF2
    clear hF2
    dsimp only [rs]
    refine j_aload_n dX11_feed_57 rfl ?_
    refine j_getR dX11_feed_58 fl_X11_10 rfl (Fr_K hF (fcK fc 0 (c := 12) rfl rfl) (by decide)) (Fr_O hF (fcK fc 0 (c := 12) rfl rfl) (by decide) (fun e => by rcases e with e | e; exact fcNe fc (i := 0) (j := 1) rfl rfl rfl e; exact fcNe fc (i := 0) (j := 11) rfl rfl rfl e) (fcO fc 0 0 1 (by decide))) ?_
    refine j_getI dX11_feed_61 fl_X11_108 rfl (Fr_K hF (fcK fc 1 (c := 6) rfl rfl) (by decide)) ?_
    rw [hl]
    exact j_ireturn dX11_feed_64 rfl rfl (⟨rfl, Fr_mono hF (fun c _ e => by rcases e with rfl | rfl; exact ccB b w xw rfl; exact ccB b w xw rfl)⟩)
  · exact absurd (by decide) c_10

set_option maxRecDepth 20000 in
theorem d_read0 {h : Hp} {b : Nat → Nat} {w xw : Nat} (fc : FC h b w xw) : Con mX5_read 1 0 0 [vr (some (b 1)), vr (some w), vr (some (b 3))] h (fun v u => v = some (vr none) ∧ Fr (fun c => c = b 1) h u ∧ hI u (b 1) 4 = 0) := by
  refine con_of rfl (Nat.le_of_ble_eq_true rfl) (by decide) ?_
  show J mX5_read 1 0 0 _ 0 [some (vr (some (b 1))), some (vr (some w)), some (vr (some (b 3))), none, none] [] h
  refine j_aload_n dX5_read_0 rfl ?_
  refine j_aload_n dX5_read_1 rfl ?_
  refine j_putO dX5_read_2 fl_X5_28 rfl (fcK fc 1 rfl rfl) ?_
  refine j_aload_n dX5_read_5 rfl ?_
  refine j_aload_n dX5_read_6 rfl ?_
  refine j_putO dX5_read_7 fl_X5_32 rfl (fcK fc 1 rfl rfl) ?_
  refine j_aload_n dX5_read_10 rfl ?_
  refine j_iconst (v := 0) dX5_read_11 (by decide) ?_
  refine j_putI dX5_read_12 fl_X5_36 rfl rfl rfl (fcK fc 1 rfl rfl) ?_
  refine j_aload_n dX5_read_15 rfl ?_
  refine j_iconst (v := -1) dX5_read_16 (by decide) ?_
  refine j_putI dX5_read_17 fl_X5_39 rfl rfl rfl (fcK fc 1 rfl rfl) ?_
  refine j_iconst (v := 0) dX5_read_20 (by decide) ?_
  refine j_istore_n dX5_read_21 (by decide) ?_
  dsimp only [st1, st2, unL, List.set]
  refine j_iload_n dX5_read_22 rfl ?_
  refine j_aload_n dX5_read_23 rfl ?_
  refine j_getI dX5_read_24 fl_X5_24 rfl (fcK fc 1 rfl rfl) ?_
  rw [show hI (pI (pI (pO (pO h (b 1) 11 (some w)) (b 1) 12 (some (b 3))) (b 1) 4 0) (b 1) 5 (-1)) (b 1) 3 = 0 by simp [hI_pI, hI_pO]; exact fcI fc 1 3 0 (by decide)]
  refine j_icmp_ge 47 dX5_read_27 (by decide) (fun c_27 => ?_) (fun c_27 => ?_)
  · refine j_aload_n dX5_read_47 rfl ?_
    refine j_aload_n dX5_read_48 rfl ?_
    refine j_getI dX5_read_49 fl_X5_24 rfl (fcK fc 1 rfl rfl) ?_
    rw [show hI (pI (pI (pO (pO h (b 1) 11 (some w)) (b 1) 12 (some (b 3))) (b 1) 4 0) (b 1) 5 (-1)) (b 1) 3 = 0 by simp [hI_pI, hI_pO]; exact fcI fc 1 3 0 (by decide)]
    refine j_putI dX5_read_52 fl_X5_42 rfl rfl rfl (fcK fc 1 rfl rfl) ?_
    refine j_aload_n dX5_read_55 rfl ?_
    refine j_getI dX5_read_56 fl_X5_42 rfl (fcK fc 1 rfl rfl) ?_
    rw [show hI (pI (pI (pI (pO (pO h (b 1) 11 (some w)) (b 1) 12 (some (b 3))) (b 1) 4 0) (b 1) 5 (-1)) (b 1) 8 0) (b 1) 8 = 0 by simp [hI_pI, hI_pO]]
    refine j_iload_n dX5_read_59 rfl ?_
    refine j_icmp_le 92 dX5_read_60 (by decide) (fun c_60 => ?_) (fun c_60 => ?_)
    · refine j_null dX5_read_92 ?_
      refine j_astore dX5_read_93 (by decide) ?_
      dsimp only [st1, st2, unL, List.set]
      refine j_iload_n dX5_read_95 rfl ?_
      refine j_aload_n dX5_read_96 rfl ?_
      refine j_getI dX5_read_97 fl_X5_42 rfl (fcK fc 1 rfl rfl) ?_
      rw [show hI (pI (pI (pI (pO (pO h (b 1) 11 (some w)) (b 1) 12 (some (b 3))) (b 1) 4 0) (b 1) 5 (-1)) (b 1) 8 0) (b 1) 8 = 0 by simp [hI_pI, hI_pO]]
      refine j_icmp_ge 124 dX5_read_100 (by decide) (fun c_100 => ?_) (fun c_100 => ?_)
      · refine j_iload_n dX5_read_124 rfl ?_
        refine j_aload_n dX5_read_125 rfl ?_
        refine j_getI dX5_read_126 fl_X5_42 rfl (fcK fc 1 rfl rfl) ?_
        rw [show hI (pI (pI (pI (pO (pO h (b 1) 11 (some w)) (b 1) 12 (some (b 3))) (b 1) 4 0) (b 1) 5 (-1)) (b 1) 8 0) (b 1) 8 = 0 by simp [hI_pI, hI_pO]]
        refine j_icmp_ge 139 dX5_read_129 (by decide) (fun c_129 => ?_) (fun c_129 => ?_)
        · refine j_aload_n dX5_read_139 rfl ?_
          refine j_iconst (v := 0) dX5_read_140 (by decide) ?_
          refine j_putI dX5_read_141 fl_X5_24 rfl rfl rfl (fcK fc 1 rfl rfl) ?_
          refine j_aload dX5_read_144 rfl ?_
          exact j_areturn dX5_read_146 rfl rfl (⟨rfl, Fr_pI (Fr_pI (Fr_pI (Fr_pI (Fr_pO (Fr_pO Fr_rf (Or.inl rfl)) (Or.inl rfl)) (Or.inl rfl)) (Or.inl rfl)) (Or.inl rfl)) (Or.inl rfl), by simp [hI_pI]⟩)
        · exact absurd (by decide) c_129
      · exact absurd (by decide) c_100
    · exact absurd (by decide) c_60
  · exact absurd (by decide) c_27

/-- what a step looks at -/
def FS (h : Hp) (b : Nat → Nat) (w : Nat) : Prop := hK h (b 0) = 12 ∧ hO h (b 0) 11 = some w ∧ hO h (b 0) 5 = some (b 6) ∧ hK h w = 7 ∧ hK h (b 6) = 8 ∧ hO h (b 6) 0 = some (b 32) ∧ hK h (b 32) = 21 ∧ hN h (b 32) = 40 ∧ hI h (b 6) 2 = nI 0
theorem FS_fc {h : Hp} {b : Nat → Nat} {w xw : Nat} (fc : FC h b w xw) : FS h b w := ⟨fcK fc 0 rfl rfl, fcW fc, fcO fc 0 5 6 (by decide), (fcS fc).1, fcK fc 6 rfl rfl, fcO fc 6 0 32 (by decide), fcK fc 32 rfl rfl, fcN fc 32 rfl rfl, fcI fc 6 2 0 (by decide)⟩
theorem FS_fr {S : Nat → Prop} {h u : Hp} {b : Nat → Nat} {w : Nat} (f : FS h b w) (hF : Fr S h u) (s0 : ¬ S (b 0)) (s6 : ¬ S (b 6)) : FS u b w := by
  obtain ⟨a1, a2, a3, a4, a5, a6, a7, a8, a9⟩ := f
  exact ⟨Fr_K hF a1 (by decide), Fr_O hF a1 (by decide) s0 a2, Fr_O hF a1 (by decide) s0 a3, Fr_K hF a4 (by decide), Fr_K hF a5 (by decide), Fr_O hF a5 (by decide) s6 a6, Fr_K hF a7 (by decide), Fr_N hF a7 (by decide) a8, Fr_I hF a5 (by decide) s6 a9⟩
theorem d_step {h : Hp} {b : Nat → Nat} {w : Nat} {nx : Option Nat} (f : FS h b w) : Con mX11_step 2 0 0 [vr (some (b 0)), vr nx] h (fun v u => v = none ∧ u = stp11 h b w nx) := by
  obtain ⟨a1, a2, a3, a4, a5, a6, a7, a8, a9⟩ := f
  exact c_step11 a1 a2 a3 a4 a5 a6 a7 a8 (by decide) a9
theorem Sh_pO {h : Hp} {a ra ca xa nr nc k : Nat} {x : Option Nat} (hs : Sh h a ra ca xa nr nc) : Sh (pO h xa k x) a ra ca xa nr nc :=
  Sh_fr (S := fun c => c = xa) (Fr_pO Fr_rf (Or.inl rfl)) (fun e => by have h1 := hs.1; have h2 := hs.2.2.2.2.2.2.2.2.1; rw [e] at h1; omega) hs
set_option maxRecDepth 20000 in
theorem d_enter {h : Hp} {b : Nat → Nat} {w xw : Nat} (x y : Int32) (fc : FC h b w xw) : ConX mX11_enter 6 3 330 [vr (some (b 0)), vi x, vi y] h (px h b w xw ["java/lang/IndexOutOfBoundsException", "java/lang/IllegalArgumentException", "java/lang/UnsupportedOperationException"] (if inSh 8 6 x y then 0 else 1) (0)) := by
  refine con_ofX rfl (Nat.le_of_ble_eq_true rfl) (by decide) (by decide) ?_
  show J mX11_enter 6 3 330 _ 0 [some (vr (some (b 0))), some (vi x), some (vi y), none, none, none] [] h
  refine j_aload_n dX11_enter_0 rfl ?_
  refine j_getR dX11_enter_1 fl_X11_104 rfl (fcK fc 0 rfl rfl) (fcW fc) ?_
  refine j_iload_n dX11_enter_4 rfl ?_
  refine j_iload_n dX11_enter_5 rfl ?_
  refine j_callV2 dX11_enter_6 vl_X11_113 (c_has _ _ (fcS fc)) (fcS fc).1 rfl (by decide) (by omega) (by omega) (Nat.le_of_ble_eq_true rfl) (fun v_6 u_6 p_6 => ?_)
  obtain ⟨e_6, rfl⟩ := p_6
  rw [e_6]
  clear e_6
  dsimp only [rs]
  refine j_if_ne 20 dX11_enter_9 (by decide) (fun c_9 => ?_) (fun c_9 => ?_)
  · have q := b2_n.mp c_9
    obtain ⟨i0, hi0, hx, -⟩ := nI_ex (n := 8) (by omega) q.2.1
    obtain ⟨j0, hj0, hy, -⟩ := nI_ex (n := 6) (by omega) q.2.2.2
    subst hx
    subst hy
    have q0 := q
    simp only [inSh, nI_toInt (n := i0) (by omega), nI_toInt (n := j0) (by omega)] at q
    obtain ⟨i, rfl⟩ : ∃ i, i0 = i + 1 := ⟨i0 - 1, by omega⟩
    obtain ⟨j, rfl⟩ : ∃ j, j0 = j + 1 := ⟨j0 - 1, by omega⟩
    refine j_aload_n dX11_enter_20 rfl ?_
    refine j_getR dX11_enter_21 fl_X11_10 rfl (fcK fc 0 rfl rfl) (fcO fc 0 0 1 (by decide)) ?_
    refine j_aload_n dX11_enter_24 rfl ?_
    refine j_getR dX11_enter_25 fl_X11_104 rfl (fcK fc 0 rfl rfl) (fcW fc) ?_
    refine j_aload_n dX11_enter_28 rfl ?_
    refine j_getR dX11_enter_29 fl_X11_26 rfl (fcK fc 0 rfl rfl) (fcO fc 0 2 3 (by decide)) ?_
    refine j_callV2 dX11_enter_32 vl_X11_120 (d_read0 fc) (fcK fc 1 rfl rfl) rfl (by decide) (by omega) (by omega) (Nat.le_of_ble_eq_true rfl) (fun v_32 u_32 p_32 => ?_)
    obtain ⟨rfl, hF, hf4⟩ := p_32
    have g0 := Fr_K hF (fcK fc 0 (c := 12) rfl rfl) (by decide)
    have fs := FS_fr (FS_fc fc) hF (fcNe fc (i := 0) (j := 1) rfl rfl rfl) (fcNe fc (i := 6) (j := 1) rfl rfl rfl)
    have hs := Sh_fr hF (fun e => (fcWn fc 1 rfl).1 e.symm) (fcS fc)
    have hx2 : ∀ k, hO u_32 xw k = hO h xw k := fun k => by rw [((hF xw (by rw [(fcS fc).2.2.2.2.2.2.2.2.1]; decide)).2.2 (fun e => (fcWn fc 1 rfl).2 e.symm)).2.2]
    dsimp only [rs]
    refine j_astore_n dX11_enter_35 (by decide) ?_
    dsimp only [st1, st2, unL, List.set]
    refine j_aload_n dX11_enter_36 rfl ?_
    refine j_getR dX11_enter_37 fl_X11_10 rfl g0 (Fr_O hF (fcK fc 0 (c := 12) rfl rfl) (by decide) (fcNe fc (i := 0) (j := 1) rfl rfl rfl) (fcO fc 0 0 1 (by decide))) ?_
    refine j_getI dX11_enter_40 fl_X11_124 rfl (Fr_K hF (fcK fc 1 (c := 6) rfl rfl) (by decide)) ?_
    rw [hf4]
    refine j_if_eq 54 dX11_enter_43 (by decide) (fun c_43 => ?_) (fun c_43 => ?_)
    · refine j_aload_n dX11_enter_54 rfl ?_
      refine j_callS1 dX11_enter_55 sl_X11_130 c_partsOfN rfl (by decide) (by omega) (by omega) (Nat.le_of_ble_eq_true rfl) (fun v_55 u_55 p_55 => ?_)
      obtain ⟨e_55, rfl⟩ := p_55
      rw [e_55]
      clear e_55
      dsimp only [rs]
      refine j_istore dX11_enter_58 (by decide) ?_
      dsimp only [st1, st2, unL, List.set]
      refine j_iload dX11_enter_60 rfl ?_
      refine j_ldc dX11_enter_62 kl_X11_134 ?_
      refine j_aload_n dX11_enter_64 rfl ?_
      refine j_getI dX11_enter_65 fl_X11_135 rfl g0 ?_
      rw [Fr_I hF (fcK fc 0 (c := 12) rfl rfl) (by decide) (fcNe fc (i := 0) (j := 1) rfl rfl rfl) (fcI fc 0 14 0 (by decide))]
      refine j_isub dX11_enter_68 ?_
      refine j_icmp_le 80 dX11_enter_69 (by decide) (fun c_69 => ?_) (fun c_69 => ?_)
      · refine j_aload_n dX11_enter_80 rfl ?_
        refine j_dup dX11_enter_81 rfl ?_
        refine j_getI dX11_enter_82 fl_X11_135 rfl g0 ?_
        rw [Fr_I hF (fcK fc 0 (c := 12) rfl rfl) (by decide) (fcNe fc (i := 0) (j := 1) rfl rfl rfl) (fcI fc 0 14 0 (by decide))]
        refine j_iload dX11_enter_85 rfl ?_
        refine j_iadd dX11_enter_87 ?_
        refine j_putI dX11_enter_88 fl_X11_135 rfl rfl rfl g0 ?_
        rw [pI_same (show hI u_32 (b 0) 14 = 0 + 0 from Fr_I hF (fcK fc 0 (c := 12) rfl rfl) (by decide) (fcNe fc (i := 0) (j := 1) rfl rfl rfl) (fcI fc 0 14 0 (by decide)))]
        refine j_aload_n dX11_enter_91 rfl ?_
        refine j_getR dX11_enter_92 fl_X11_104 rfl g0 fs.2.1 ?_
        refine j_callV0 dX11_enter_95 vl_X11_100 (c_twin hs (fun k v hk hv => by rw [hx2, fcX fc k hk] at hv; cases hv)) (by first | exact fcK fc 0 rfl rfl | exact (fcS fc).1 | exact fcK fc 1 rfl rfl | exact hs.1 | exact hS2.1 | exact (FS_fr fs hEx (fun z => z) (fun z => z)).1) rfl (by decide) (by omega) (by omega) (Nat.le_of_ble_eq_true rfl) (fun v_95 u_95 p_95 => ?_)
        obtain ⟨q2, xq, rfl, hq0, hxq0, hS2, hEx, -⟩ := p_95
        dsimp only [rs]
        refine j_astore dX11_enter_98 (by decide) ?_
        dsimp only [st1, st2, unL, List.set]
        refine j_aload dX11_enter_100 rfl ?_
        refine j_iload_n dX11_enter_102 rfl ?_
        refine j_iload_n dX11_enter_103 rfl ?_
        refine j_aload_n dX11_enter_104 rfl ?_
        refine j_callV3 dX11_enter_105 vl_X11_141 (c_put i j (by omega) (by omega) (x := none) (fun v e => by cases e) hS2) (by first | exact fcK fc 0 rfl rfl | exact (fcS fc).1 | exact fcK fc 1 rfl rfl | exact hs.1 | exact hS2.1 | exact (FS_fr fs hEx (fun z => z) (fun z => z)).1) rfl (by decide) (by omega) (by omega) (Nat.le_of_ble_eq_true rfl) (fun v_105 u_105 p_105 => ?_)
        obtain ⟨rfl, rfl⟩ := p_105
        dsimp only [rs]
        refine j_aload_n dX11_enter_108 rfl ?_
        refine j_aload dX11_enter_109 rfl ?_
        refine j_callV1 dX11_enter_111 vl_X11_145 (d_step (FS_fr (FS_fr fs hEx (fun z => z) (fun z => z)) (Fr_pO (S := fun c => c = xq) Fr_rf (Or.inl rfl)) (fun e => by rw [← e] at hxq0; have := fs.1; omega) (fun e => by rw [← e] at hxq0; have := fs.2.2.2.2.1; omega))) (by first | exact fcK fc 0 rfl rfl | exact (fcS fc).1 | exact fcK fc 1 rfl rfl | exact hs.1 | exact hS2.1 | exact (FS_fr fs hEx (fun z => z) (fun z => z)).1) rfl (by decide) (by omega) (by omega) (Nat.le_of_ble_eq_true rfl) (fun v_111 u_111 p_111 => ?_)
        obtain ⟨rfl, rfl⟩ := p_111
        dsimp only [rs]
        refine j_iload dX11_enter_114 rfl ?_
        exact j_ireturn dX11_enter_116 rfl rfl ⟨stp11_fr (Fr_pO (Fr_tr2 (Fr_mono hF (fun c _ e => by rw [e]; exact ccB b w xw rfl)) (frE hEx) (fun _ _ z => z)) (Or.inr (Classical.byContradiction fun z => by have := (hF xq z).1; omega))), if_pos q0, rfl⟩
      · exact absurd (by decide) c_69
    · exact absurd rfl c_43
  · exact j_throw (E := "java/lang/IndexOutOfBoundsException") ⟨117, 119, by decide, dX11_enter_12, dX11_enter_15, dX11_enter_16, dX11_enter_19⟩ (by omega) (by omega) (Nat.le_of_ble_eq_true rfl) ⟨Fr_rf, by rw [if_neg (b2_0.mp (Classical.not_not.mp c_9))]; decide, by rw [if_neg (b2_0.mp (Classical.not_not.mp c_9))]; rfl⟩

