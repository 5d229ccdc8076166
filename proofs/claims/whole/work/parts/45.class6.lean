/-! ===== the system on a fresh object: calls, one ===== -/
theorem FC_ex {h u : Hp} {b : Nat → Nat} {w xw : Nat} (fc : FC h b w xw) (e : Ex h u) : FC u b w xw := by
  have hs := fcS fc
  obtain ⟨f1, f2, f3, f4, f5, f6, f7, f8, f9, f10, f11, f12, f13, f14, f15⟩ := fc
  have kn : ∀ k, k < 39 → hK h (b k) ≠ 0 := fun k hk => by
    rw [(f1 k hk).1]
    have : ∀ k : Fin 39, ck k ≠ 0 := by decide
    exact this ⟨k, hk⟩
  have ee : ∀ k, k < 39 → hI u (b k) = hI h (b k) ∧ hG u (b k) = hG h (b k) ∧ hO u (b k) = hO h (b k) := fun k hk => (e (b k) (kn k hk)).2.2 (fun z => z)
  have ew := (e w (by rw [f11.1]; decide)).2.2 (fun z => z)
  have ex := (e xw (by rw [f11.2.2.2.2.2.2.2.2.1]; decide)).2.2 (fun z => z)
  have c1 : ∀ t ∈ crl, t.1 < 39 := by decide
  have c2 : ∀ t ∈ cil, t.1 < 39 := by decide
  refine ⟨fun k hk => ⟨(e (b k) (kn k hk)).1.trans (f1 k hk).1, (e (b k) (kn k hk)).2.1.trans (f1 k hk).2⟩, f2, fun t ht => by rw [(ee t.1 (c1 t ht)).2.2]; exact f3 t ht, fun t ht => by rw [(ee t.1 (c2 t ht)).1]; exact f4 t ht, by rw [(ee 21 (by decide)).2.1]; exact f5, fun j hj => by rw [(ee 36 (by decide)).1]; exact f6 j hj, fun j hj => by rw [(ee 37 (by decide)).1]; exact f7 j hj, by rw [(ee 0 (by decide)).2.2]; exact f8, by rw [(ee 35 (by decide)).2.2]; exact f9, fun j => by rw [(ee 38 (by decide)).2.2]; exact f10 j, Sh_fr e (fun z => z) f11, by rw [ew.2.2]; exact f12, fun j hj => by rw [ex.2.2]; exact f13 j hj, f14, by rw [(ee 7 (by decide)).2.1]; exact f15⟩
theorem frE {S : Nat → Prop} {h u : Hp} (e : Ex h u) : Fr S h u := Fr_mono e (fun _ _ z => z.elim)
theorem brC {h : Hp} {b : Nat → Nat} {w xw : Nat} (fc : FC h b w xw) {x : Int32} (hx : (0 : Int32) ≤ x ∧ x ≤ 5) : ∃ k : Nat, k < 6 ∧ x = nI k ∧ hI h (b 9) k = if k = 0 then 0 else -1 := by
  simp only [le_i, Int32.reduceToInt] at hx
  obtain ⟨k, hk, rfl, -⟩ := nI_ex (n := 5) hx.1 hx.2
  refine ⟨k, by omega, rfl, ?_⟩
  have hc : k = 0 ∨ k = 1 ∨ k = 2 ∨ k = 3 ∨ k = 4 ∨ k = 5 := by omega
  rcases hc with rfl | rfl | rfl | rfl | rfl | rfl
  · exact fcI fc 9 0 0 (by decide)
  · exact fcI fc 9 1 (-1) (by decide)
  · exact fcI fc 9 2 (-1) (by decide)
  · exact fcI fc 9 3 (-1) (by decide)
  · exact fcI fc 9 4 (-1) (by decide)
  · exact fcI fc 9 5 (-1) (by decide)
set_option maxRecDepth 20000 in
theorem d_fault {h : Hp} {b : Nat → Nat} {w xw : Nat} (x : Int32) (fc : FC h b w xw) : Con mX11_fault 1 0 0 [vr (some (b 0)), vi x] h (fun v u => u = h ∧ v = some (vi (if x = 0 then 0 else if x = 1 then 0 else -1))) := by
  refine con_of rfl (Nat.le_of_ble_eq_true rfl) (by decide) ?_
  show J mX11_fault 1 0 0 _ 0 [some (vr (some (b 0))), some (vi x)] [] h
  refine j_iload_n dX11_fault_0 rfl ?_
  refine j_if_ne 12 dX11_fault_1 (by decide) (fun c_1 => ?_) (fun c_1 => ?_)
  · refine j_iload_n dX11_fault_12 rfl ?_
    refine j_iconst (v := 1) dX11_fault_13 (by decide) ?_
    refine j_icmp_ne 27 dX11_fault_14 (by decide) (fun c_14 => ?_) (fun c_14 => ?_)
    · refine j_iconst (v := -1) dX11_fault_27 (by decide) ?_
      exact j_ireturn dX11_fault_28 rfl rfl (⟨rfl, by simp_all⟩)
    · refine j_aload_n dX11_fault_17 rfl ?_
      refine j_getR dX11_fault_18 fl_X11_10 rfl (fcK fc 0 rfl rfl) (fcO fc 0 0 1 (by decide)) ?_
      refine j_getI dX11_fault_21 fl_X11_149 rfl (fcK fc 1 rfl rfl) ?_
      rw [fcI fc 1 5 (0) (by decide)]
      refine j_goto 28 dX11_fault_24 (by decide) ?_
      exact j_ireturn dX11_fault_28 rfl rfl (⟨rfl, by simp_all⟩)
  · refine j_aload_n dX11_fault_4 rfl ?_
    refine j_getR dX11_fault_5 fl_X11_10 rfl (fcK fc 0 rfl rfl) (fcO fc 0 0 1 (by decide)) ?_
    refine j_getI dX11_fault_8 fl_X11_124 rfl (fcK fc 1 rfl rfl) ?_
    rw [fcI fc 1 4 (0) (by decide)]
    exact j_ireturn dX11_fault_11 rfl rfl (⟨rfl, by simp_all⟩)

set_option maxRecDepth 20000 in
theorem d_end {h : Hp} {b : Nat → Nat} {w xw : Nat} (x : Int32) (fc : FC h b w xw) : Con mX11_end 1 0 0 [vr (some (b 0)), vi x] h (fun v u => v = some (vi (b2 (0 ≤ x ∧ x ≤ 0))) ∧ Fr (CC b w xw) h u) := by
  refine con_of rfl (Nat.le_of_ble_eq_true rfl) (by decide) ?_
  show J mX11_end 1 0 0 _ 0 [some (vr (some (b 0))), some (vi x)] [] h
  refine j_iload_n dX11_end_0 rfl ?_
  refine j_if_lt 15 dX11_end_1 (by decide) (fun c_1 => ?_) (fun c_1 => ?_)
  · refine j_iconst (v := 0) dX11_end_15 (by decide) ?_
    exact j_ireturn dX11_end_16 rfl rfl ⟨by simp only [lt_i, le_i, Int32.reduceToInt] at *; rw [b2f (by omega)], Fr_rf⟩
  · refine j_iload_n dX11_end_4 rfl ?_
    refine j_aload_n dX11_end_5 rfl ?_
    refine j_getR dX11_end_6 fl_X11_10 rfl (fcK fc 0 rfl rfl) (fcO fc 0 0 1 (by decide)) ?_
    refine j_getI dX11_end_9 fl_X11_108 rfl (fcK fc 1 rfl rfl) ?_
    rw [fcI fc 1 3 (0) (by decide)]
    refine j_icmp_le 17 dX11_end_12 (by decide) (fun c_12 => ?_) (fun c_12 => ?_)
    · refine j_aload_n dX11_end_17 rfl ?_
      refine j_getR dX11_end_18 fl_X11_10 rfl (fcK fc 0 rfl rfl) (fcO fc 0 0 1 (by decide)) ?_
      refine j_iload_n dX11_end_21 rfl ?_
      refine j_putI dX11_end_22 fl_X11_108 rfl rfl rfl (fcK fc 1 rfl rfl) ?_
      refine j_iconst (v := 1) dX11_end_25 (by decide) ?_
      exact j_ireturn dX11_end_26 rfl rfl ⟨by simp only [lt_i, le_i, Int32.reduceToInt] at *; rw [b2t (by omega)], Fr_pI Fr_rf (Or.inl (ccB b w xw rfl))⟩
    · refine j_iconst (v := 0) dX11_end_15 (by decide) ?_
      exact j_ireturn dX11_end_16 rfl rfl ⟨by simp only [lt_i, le_i, Int32.reduceToInt] at *; rw [b2f (by omega)], Fr_rf⟩

set_option maxRecDepth 20000 in
theorem d_undo {h : Hp} {b : Nat → Nat} {w xw : Nat} (fc : FC h b w xw) : ConX mX11_undo 6 1 6 [vr (some (b 0))] h (px h b w xw ["java/util/NoSuchElementException"] (1) (0)) := by
  refine con_ofX rfl (Nat.le_of_ble_eq_true rfl) (by decide) (by decide) ?_
  show J mX11_undo 6 1 6 _ 0 [some (vr (some (b 0)))] [] h
  refine j_aload_n dX11_undo_0 rfl ?_
  refine j_getR dX11_undo_1 fl_X11_53 rfl (fcK fc 0 rfl rfl) (fcO fc 0 5 6 (by decide)) ?_
  refine j_getI dX11_undo_4 fl_X11_220 rfl (fcK fc 6 rfl rfl) ?_
  rw [fcI fc 6 2 (0) (by decide)]
  refine j_if_ne 18 dX11_undo_7 (by decide) (fun c_7 => ?_) (fun c_7 => ?_)
  · exact absurd c_7 (by decide)
  · exact j_throw (E := "java/util/NoSuchElementException") ⟨223, 225, by decide, dX11_undo_10, dX11_undo_13, dX11_undo_14, dX11_undo_17⟩ (by omega) (by omega) (Nat.le_of_ble_eq_true rfl) (⟨Fr_rf, by rw [show (1 : Int32) = 1 from rfl]; decide, by rw [show (1 : Int32) = 1 from rfl]; rfl⟩)

set_option maxRecDepth 20000 in
theorem d_redo {h : Hp} {b : Nat → Nat} {w xw : Nat} (fc : FC h b w xw) : ConX mX11_redo 6 1 6 [vr (some (b 0))] h (px h b w xw ["java/util/NoSuchElementException"] (1) (0)) := by
  refine con_ofX rfl (Nat.le_of_ble_eq_true rfl) (by decide) (by decide) ?_
  show J mX11_redo 6 1 6 _ 0 [some (vr (some (b 0)))] [] h
  refine j_aload_n dX11_redo_0 rfl ?_
  refine j_getR dX11_redo_1 fl_X11_53 rfl (fcK fc 0 rfl rfl) (fcO fc 0 5 6 (by decide)) ?_
  refine j_getI dX11_redo_4 fl_X11_233 rfl (fcK fc 6 rfl rfl) ?_
  rw [fcI fc 6 3 (0) (by decide)]
  refine j_if_ne 18 dX11_redo_7 (by decide) (fun c_7 => ?_) (fun c_7 => ?_)
  · exact absurd c_7 (by decide)
  · exact j_throw (E := "java/util/NoSuchElementException") ⟨223, 225, by decide, dX11_redo_10, dX11_redo_13, dX11_redo_14, dX11_redo_17⟩ (by omega) (by omega) (Nat.le_of_ble_eq_true rfl) (⟨Fr_rf, by rw [show (1 : Int32) = 1 from rfl]; decide, by rw [show (1 : Int32) = 1 from rfl]; rfl⟩)

set_option maxRecDepth 20000 in
theorem d_pick {h : Hp} {b : Nat → Nat} {w xw : Nat} (x : Int32) (fc : FC h b w xw) : ConX mX11_pick 6 1 6 [vr (some (b 0)), vi x] h (px h b w xw ["java/util/NoSuchElementException", "java/lang/UnsupportedOperationException", "java/lang/IllegalStateException"] (1) (0)) := by
  refine con_ofX rfl (Nat.le_of_ble_eq_true rfl) (by decide) (by decide) ?_
  show J mX11_pick 6 1 6 _ 0 [some (vr (some (b 0))), some (vi x), none] [] h
  refine j_iload_n dX11_pick_0 rfl ?_
  refine j_if_le 15 dX11_pick_1 (by decide) (fun c_1 => ?_) (fun c_1 => ?_)
  · exact j_throw (E := "java/util/NoSuchElementException") ⟨223, 225, by decide, dX11_pick_15, dX11_pick_18, dX11_pick_19, dX11_pick_22⟩ (by omega) (by omega) (Nat.le_of_ble_eq_true rfl) (⟨Fr_rf, by rw [show (1 : Int32) = 1 from rfl]; decide, by rw [show (1 : Int32) = 1 from rfl]; rfl⟩)
  · refine j_iload_n dX11_pick_4 rfl ?_
    refine j_aload_n dX11_pick_5 rfl ?_
    refine j_getR dX11_pick_6 fl_X11_26 rfl (fcK fc 0 rfl rfl) (fcO fc 0 2 3 (by decide)) ?_
    refine j_getI dX11_pick_9 fl_X11_243 rfl (fcK fc 3 rfl rfl) ?_
    rw [fcI fc 3 4 (1) (by decide)]
    refine j_icmp_lt 23 dX11_pick_12 (by decide) (fun c_12 => ?_) (fun c_12 => ?_)
    · exact absurd c_12 (by simp only [lt_i, le_i, Int32.reduceToInt] at *; omega)
    · exact j_throw (E := "java/util/NoSuchElementException") ⟨223, 225, by decide, dX11_pick_15, dX11_pick_18, dX11_pick_19, dX11_pick_22⟩ (by omega) (by omega) (Nat.le_of_ble_eq_true rfl) (⟨Fr_rf, by rw [show (1 : Int32) = 1 from rfl]; decide, by rw [show (1 : Int32) = 1 from rfl]; rfl⟩)

set_option maxRecDepth 20000 in
theorem d_conflict {h : Hp} {b : Nat → Nat} {w xw : Nat} (x y : Int32) (fc : FC h b w xw) : Con mX11_conflict 2 0 0 [vr (some (b 0)), vi x, vi y] h (fun v u => u = h ∧ v = some (vi (-1))) := by
  refine con_of rfl (Nat.le_of_ble_eq_true rfl) (by decide) ?_
  show J mX11_conflict 2 0 0 _ 0 [some (vr (some (b 0))), some (vi x), some (vi y), none] [] h
  refine j_aload_n dX11_conflict_0 rfl ?_
  refine j_getR dX11_conflict_1 fl_X11_46 rfl (fcK fc 0 rfl rfl) (fcO fc 0 4 5 (by decide)) ?_
  refine j_iload_n dX11_conflict_4 rfl ?_
  refine j_callV1 dX11_conflict_5 vl_X11_288 (d_merAt _ (fcK fc 5 rfl rfl) (fcI fc 5 2 0 (by decide))) (fcK fc 5 rfl rfl) rfl (by decide) (by omega) (by omega) (Nat.le_of_ble_eq_true rfl) (fun v_5 u_5 p_5 => ?_)
  obtain ⟨e_5, rfl⟩ := p_5
  rw [e_5]
  clear e_5
  dsimp only [rs]
  refine j_astore_n dX11_conflict_8 (by decide) ?_
  dsimp only [st1, st2, unL, List.set]
  refine j_aload_n dX11_conflict_9 rfl ?_
  refine j_ifnonnull 15 dX11_conflict_10 (by decide) (fun c_10 => ?_) (fun c_10 => ?_)
  · exact absurd c_10 (fun e => e rfl)
  · refine j_iconst (v := -1) dX11_conflict_13 (by decide) ?_
    exact j_ireturn dX11_conflict_14 rfl rfl (⟨rfl, rfl⟩)

set_option maxRecDepth 20000 in
theorem d_choose {h : Hp} {b : Nat → Nat} {w xw : Nat} (x y : Int32) (fc : FC h b w xw) : ConX mX11_choose 6 1 6 [vr (some (b 0)), vi x, vi y] h (px h b w xw ["java/lang/IndexOutOfBoundsException"] (1) (0)) := by
  refine con_ofX rfl (Nat.le_of_ble_eq_true rfl) (by decide) (by decide) ?_
  show J mX11_choose 6 1 6 _ 0 [some (vr (some (b 0))), some (vi x), some (vi y), none] [] h
  refine j_aload_n dX11_choose_0 rfl ?_
  refine j_getR dX11_choose_1 fl_X11_46 rfl (fcK fc 0 rfl rfl) (fcO fc 0 4 5 (by decide)) ?_
  refine j_iload_n dX11_choose_4 rfl ?_
  refine j_callV1 dX11_choose_5 vl_X11_288 (d_merAt _ (fcK fc 5 rfl rfl) (fcI fc 5 2 0 (by decide))) (fcK fc 5 rfl rfl) rfl (by decide) (by omega) (by omega) (Nat.le_of_ble_eq_true rfl) (fun v_5 u_5 p_5 => ?_)
  obtain ⟨e_5, rfl⟩ := p_5
  rw [e_5]
  clear e_5
  dsimp only [rs]
  refine j_astore_n dX11_choose_8 (by decide) ?_
  dsimp only [st1, st2, unL, List.set]
  refine j_aload_n dX11_choose_9 rfl ?_
  refine j_ifnonnull 21 dX11_choose_10 (by decide) (fun c_10 => ?_) (fun c_10 => ?_)
  · exact absurd c_10 (fun e => e rfl)
  · exact j_throw (E := "java/lang/IndexOutOfBoundsException") ⟨117, 119, by decide, dX11_choose_13, dX11_choose_16, dX11_choose_17, dX11_choose_20⟩ (by omega) (by omega) (Nat.le_of_ble_eq_true rfl) (⟨Fr_rf, by rw [show (1 : Int32) = 1 from rfl]; decide, by rw [show (1 : Int32) = 1 from rfl]; rfl⟩)

set_option maxRecDepth 20000 in
theorem d_difference {h : Hp} {b : Nat → Nat} {w xw : Nat} (x y : Int32) (fc : FC h b w xw) : Con mX11_difference 1 0 0 [vr (some (b 0)), vi x, vi y] h (fun v u => u = h ∧ v = some (vi (-1))) := by
  refine con_of rfl (Nat.le_of_ble_eq_true rfl) (by decide) ?_
  show J mX11_difference 1 0 0 _ 0 [some (vr (some (b 0))), some (vi x), some (vi y)] [] h
  refine j_iload_n dX11_difference_0 rfl ?_
  refine j_if_lt 21 dX11_difference_1 (by decide) (fun c_1 => ?_) (fun c_1 => ?_)
  · refine j_iconst (v := -1) dX11_difference_21 (by decide) ?_
    exact j_ireturn dX11_difference_22 rfl rfl (⟨rfl, rfl⟩)
  · refine j_iload_n dX11_difference_4 rfl ?_
    refine j_aload_n dX11_difference_5 rfl ?_
    refine j_getI dX11_difference_6 fl_X11_315 rfl (fcK fc 0 rfl rfl) ?_
    rw [fcI fc 0 10 (0) (by decide)]
    refine j_icmp_ge 21 dX11_difference_9 (by decide) (fun c_9 => ?_) (fun c_9 => ?_)
    · refine j_iconst (v := -1) dX11_difference_21 (by decide) ?_
      exact j_ireturn dX11_difference_22 rfl rfl (⟨rfl, rfl⟩)
    · exact absurd (by simp only [lt_i, le_i, Int32.reduceToInt] at *; omega) c_9

set_option maxRecDepth 20000 in
theorem c_nlzI1 {h : Hp}  : Con mJ6_numberOfLeadingZeros_0f7a4 1 0 0 [vi 1] h (fun v u => u = h ∧ v = some (vi 31)) := by
  refine con_of rfl (Nat.le_of_ble_eq_true rfl) (by decide) ?_
  show J mJ6_numberOfLeadingZeros_0f7a4 1 0 0 _ 0 [some (vi 1), none] [] h
  refine j_iload_n dJ6_numberOfLeadingZeros_0f7a4_0 rfl ?_
  refine j_if_gt 15 dJ6_numberOfLeadingZeros_0f7a4_1 (by decide) (fun c_1 => ?_) (fun c_1 => ?_)
  · refine j_bipush (v := 31) dJ6_numberOfLeadingZeros_0f7a4_15 (by decide) ?_
    refine j_istore_n dJ6_numberOfLeadingZeros_0f7a4_17 (by decide) ?_
    dsimp only [st1, st2, unL, List.set]
    refine j_iload_n dJ6_numberOfLeadingZeros_0f7a4_18 rfl ?_
    refine j_ldcw dJ6_numberOfLeadingZeros_0f7a4_19 kl_J6_264 ?_
    refine j_icmp_lt 33 dJ6_numberOfLeadingZeros_0f7a4_22 (by decide) (fun c_22 => ?_) (fun c_22 => ?_)
    · refine j_iload_n dJ6_numberOfLeadingZeros_0f7a4_33 rfl ?_
      refine j_sipush (v := 256) dJ6_numberOfLeadingZeros_0f7a4_34 (by decide) ?_
      refine j_icmp_lt 48 dJ6_numberOfLeadingZeros_0f7a4_37 (by decide) (fun c_37 => ?_) (fun c_37 => ?_)
      · refine j_iload_n dJ6_numberOfLeadingZeros_0f7a4_48 rfl ?_
        refine j_bipush (v := 16) dJ6_numberOfLeadingZeros_0f7a4_49 (by decide) ?_
        refine j_icmp_lt 61 dJ6_numberOfLeadingZeros_0f7a4_51 (by decide) (fun c_51 => ?_) (fun c_51 => ?_)
        · refine j_iload_n dJ6_numberOfLeadingZeros_0f7a4_61 rfl ?_
          refine j_iconst (v := 4) dJ6_numberOfLeadingZeros_0f7a4_62 (by decide) ?_
          refine j_icmp_lt 73 dJ6_numberOfLeadingZeros_0f7a4_63 (by decide) (fun c_63 => ?_) (fun c_63 => ?_)
          · refine j_iload_n dJ6_numberOfLeadingZeros_0f7a4_73 rfl ?_
            refine j_iload_n dJ6_numberOfLeadingZeros_0f7a4_74 rfl ?_
            refine j_iconst (v := 1) dJ6_numberOfLeadingZeros_0f7a4_75 (by decide) ?_
            refine j_iushr 0 dJ6_numberOfLeadingZeros_0f7a4_76 (by decide) ?_
            refine j_isub dJ6_numberOfLeadingZeros_0f7a4_77 ?_
            exact j_ireturn dJ6_numberOfLeadingZeros_0f7a4_78 rfl rfl (⟨rfl, rfl⟩)
          · exact absurd (by decide) c_63
        · exact absurd (by decide) c_51
      · exact absurd (by decide) c_37
    · exact absurd (by decide) c_22
  · exact absurd (by decide) c_1

set_option maxRecDepth 20000 in
theorem c_nlzL1 {h : Hp}  : Con mJ13_numberOfLeadingZeros_95d88 2 0 0 [vl 1] h (fun v u => u = h ∧ v = some (vi 63)) := by
  refine con_of rfl (Nat.le_of_ble_eq_true rfl) (by decide) ?_
  show J mJ13_numberOfLeadingZeros_95d88 2 0 0 _ 0 [some (vl 1), none, none] [] h
  refine j_lload_n dJ13_numberOfLeadingZeros_95d88_0 rfl ?_
  refine j_bipush (v := 32) dJ13_numberOfLeadingZeros_95d88_1 (by decide) ?_
  refine j_lushr 0 dJ13_numberOfLeadingZeros_95d88_3 (by decide) ?_
  refine j_l2i dJ13_numberOfLeadingZeros_95d88_4 ?_
  refine j_istore_n dJ13_numberOfLeadingZeros_95d88_5 (by decide) ?_
  dsimp only [st1, st2, unL, List.set]
  refine j_iload_n dJ13_numberOfLeadingZeros_95d88_6 rfl ?_
  refine j_if_ne 21 dJ13_numberOfLeadingZeros_95d88_7 (by decide) (fun c_7 => ?_) (fun c_7 => ?_)
  · exact absurd c_7 (by decide)
  · refine j_bipush (v := 32) dJ13_numberOfLeadingZeros_95d88_10 (by decide) ?_
    refine j_lload_n dJ13_numberOfLeadingZeros_95d88_12 rfl ?_
    refine j_l2i dJ13_numberOfLeadingZeros_95d88_13 ?_
    rw [show (1 : Int64).toInt32 = 1 from rfl]
    refine j_callS1 dJ13_numberOfLeadingZeros_95d88_14 sl_J13_308 c_nlzI1 rfl (by decide) (by omega) (by omega) (Nat.le_of_ble_eq_true rfl) (fun v_14 u_14 p_14 => ?_)
    obtain ⟨e_14, rfl⟩ := p_14
    rw [e_14]
    clear e_14
    dsimp only [rs]
    refine j_iadd dJ13_numberOfLeadingZeros_95d88_17 ?_
    refine j_goto 25 dJ13_numberOfLeadingZeros_95d88_18 (by decide) ?_
    exact j_ireturn dJ13_numberOfLeadingZeros_95d88_25 rfl rfl (⟨rfl, rfl⟩)

set_option maxRecDepth 20000 in
theorem d_commonOf {h : Hp} {b : Nat → Nat} {w xw : Nat} (fc : FC h b w xw) : Con mX2_commonOf 3 0 0 [vr (some (b 3)), vi 0, vi 0] h (fun v u => u = h ∧ v = some (vi 0)) := by
  refine con_of rfl (Nat.le_of_ble_eq_true rfl) (by decide) ?_
  show J mX2_commonOf 3 0 0 _ 0 [some (vr (some (b 3))), some (vi 0), some (vi 0)] [] h
  refine j_bipush (v := 63) dX2_commonOf_0 (by decide) ?_
  refine j_aload_n dX2_commonOf_2 rfl ?_
  refine j_iload_n dX2_commonOf_3 rfl ?_
  refine j_callV1 dX2_commonOf_4 vl_X2_32 (c_ancestorsOf 0 (fcLg fc)) (fcK fc 3 rfl rfl) rfl (by decide) (by omega) (by omega) (Nat.le_of_ble_eq_true rfl) (fun v_4 u_4 p_4 => ?_)
  obtain ⟨e_, rfl⟩ := p_4
  rw [e_]
  clear e_
  rw [(show anV h (b 21) 1 0 = 1 by rw [anV, if_pos (by decide)]; exact fc.2.2.2.2.1)]
  dsimp only [rs]
  refine j_aload_n dX2_commonOf_7 rfl ?_
  refine j_iload_n dX2_commonOf_8 rfl ?_
  refine j_callV1 dX2_commonOf_9 vl_X2_32 (c_ancestorsOf 0 (fcLg fc)) (fcK fc 3 rfl rfl) rfl (by decide) (by omega) (by omega) (Nat.le_of_ble_eq_true rfl) (fun v_9 u_9 p_9 => ?_)
  obtain ⟨e_, rfl⟩ := p_9
  rw [e_]
  clear e_
  rw [(show anV h (b 21) 1 0 = 1 by rw [anV, if_pos (by decide)]; exact fc.2.2.2.2.1)]
  dsimp only [rs]
  refine j_land dX2_commonOf_12 ?_
  rw [show (1 : Int64) &&& 1 = 1 from rfl]
  refine j_callS1 dX2_commonOf_13 sl_X2_36 c_nlzL1 rfl (by decide) (by omega) (by omega) (Nat.le_of_ble_eq_true rfl) (fun v_13 u_13 p_13 => ?_)
  obtain ⟨e_13, rfl⟩ := p_13
  rw [e_13]
  clear e_13
  dsimp only [rs]
  refine j_isub dX2_commonOf_16 ?_
  exact j_ireturn dX2_commonOf_17 rfl rfl (⟨rfl, rfl⟩)

set_option maxRecDepth 20000 in
theorem d_base {h : Hp} {b : Nat → Nat} {w xw : Nat} (x y : Int32) (fc : FC h b w xw) : Con mX11_base 4 0 0 [vr (some (b 0)), vi x, vi y] h (fun v u => u = h ∧ v = some (vi (if x = 0 ∧ y = 0 then 0 else -1))) := by
  refine con_of rfl (Nat.le_of_ble_eq_true rfl) (by decide) ?_
  show J mX11_base 4 0 0 _ 0 [some (vr (some (b 0))), some (vi x), some (vi y)] [] h
  refine j_aload_n dX11_base_0 rfl ?_
  refine j_getR dX11_base_1 fl_X11_26 rfl (fcK fc 0 rfl rfl) (fcO fc 0 2 3 (by decide)) ?_
  refine j_iload_n dX11_base_4 rfl ?_
  refine j_callV1 dX11_base_5 vl_X11_269 (c_logAt _ (fcLg fc)) (fcK fc 3 rfl rfl) rfl (by decide) (by omega) (by omega) (Nat.le_of_ble_eq_true rfl) (fun v_5 u_5 p_5 => ?_)
  obtain ⟨e_5, rfl⟩ := p_5
  rw [e_5]
  clear e_5
  dsimp only [rs]
  refine j_ifnull 22 dX11_base_8 (by decide) (fun c_8 => ?_) (fun c_8 => ?_)
  · refine j_iconst (v := -1) dX11_base_22 (by decide) ?_
    refine j_goto 35 dX11_base_23 (by decide) ?_
    first | exact j_ireturn dX11_base_35 rfl rfl ⟨rfl, rfl⟩ | exact j_ireturn dX11_base_35 rfl rfl ⟨rfl, by rw [if_neg]; rintro ⟨rfl, rfl⟩; first | exact absurd c_8 (by rw [shV_0 fc]; exact fun e => by cases e) | exact absurd c_19 (by rw [shV_0 fc]; exact fun e => by cases e)⟩
  · refine j_aload_n dX11_base_11 rfl ?_
    refine j_getR dX11_base_12 fl_X11_26 rfl (fcK fc 0 rfl rfl) (fcO fc 0 2 3 (by decide)) ?_
    refine j_iload_n dX11_base_15 rfl ?_
    refine j_callV1 dX11_base_16 vl_X11_269 (c_logAt _ (fcLg fc)) (fcK fc 3 rfl rfl) rfl (by decide) (by omega) (by omega) (Nat.le_of_ble_eq_true rfl) (fun v_16 u_16 p_16 => ?_)
    obtain ⟨e_16, rfl⟩ := p_16
    rw [e_16]
    clear e_16
    dsimp only [rs]
    refine j_ifnonnull 26 dX11_base_19 (by decide) (fun c_19 => ?_) (fun c_19 => ?_)
    · have hx0 : x = 0 := Classical.byContradiction fun e => c_8 (shV_n e)
      have hy0 : y = 0 := Classical.byContradiction fun e => c_19 (shV_n e)
      subst hx0
      subst hy0
      refine j_aload_n dX11_base_26 rfl ?_
      refine j_getR dX11_base_27 fl_X11_26 rfl (fcK fc 0 rfl rfl) (fcO fc 0 2 3 (by decide)) ?_
      refine j_iload_n dX11_base_30 rfl ?_
      refine j_iload_n dX11_base_31 rfl ?_
      refine j_callV2 dX11_base_32 vl_X11_275 (d_commonOf fc) (fcK fc 3 rfl rfl) rfl (by decide) (by omega) (by omega) (Nat.le_of_ble_eq_true rfl) (fun v_32 u_32 p_32 => ?_)
      obtain ⟨e_32, rfl⟩ := p_32
      rw [e_32]
      clear e_32
      dsimp only [rs]
      first | exact j_ireturn dX11_base_35 rfl rfl ⟨rfl, rfl⟩ | exact j_ireturn dX11_base_35 rfl rfl ⟨rfl, by rw [if_neg]; rintro ⟨rfl, rfl⟩; first | exact absurd c_8 (by rw [shV_0 fc]; exact fun e => by cases e) | exact absurd c_19 (by rw [shV_0 fc]; exact fun e => by cases e)⟩
    · refine j_iconst (v := -1) dX11_base_22 (by decide) ?_
      refine j_goto 35 dX11_base_23 (by decide) ?_
      first | exact j_ireturn dX11_base_35 rfl rfl ⟨rfl, rfl⟩ | exact j_ireturn dX11_base_35 rfl rfl ⟨rfl, by rw [if_neg]; rintro ⟨rfl, rfl⟩; first | exact absurd c_8 (by rw [shV_0 fc]; exact fun e => by cases e) | exact absurd c_19 (by rw [shV_0 fc]; exact fun e => by cases e)⟩

theorem nI0 {k : Nat} (hk : k < 6) : nI k = 0 ↔ k = 0 := by rw [li_0, nI_eq (by omega) (by omega)]
set_option maxRecDepth 20000 in
theorem c_head11 {h : Hp} {x br g : Nat} (k1 : hK h x = 12) (o1 : hO h x 8 = some br) (k2 : hK h br = 15) (k3 : hN h br = 6) (hg : hI h x 12 = nI g) (hg6 : g < 6) : Con mX11_head 1 0 0 [vr (some x)] h (fun v u => u = h ∧ v = some (vi (hI h br g))) := by
  refine con_of rfl (Nat.le_of_ble_eq_true rfl) (by decide) ?_
  show J mX11_head 1 0 0 _ 0 [some (vr (some x))] [] h
  refine j_aload_n dX11_head_0 rfl ?_
  refine j_getR dX11_head_1 fl_X11_70 rfl (by first | assumption | (simp only [hK_pI, hK_pG, hK_pO]; assumption) | (simp [hK_nw, hK_pI, hK_pG, hK_pO, *]; done)) (by first | assumption | (simp only [hO_pI, hO_pG]; assumption) | (simp [hO_pO, hO_nw, hO_pI, hO_pG, *]; done)) ?_
  refine j_aload_n dX11_head_4 rfl ?_
  refine j_getI dX11_head_5 fl_X11_246 rfl (by first | assumption | (simp only [hK_pI, hK_pG, hK_pO]; assumption) | (simp [hK_nw, hK_pI, hK_pG, hK_pO, *]; done)) ?_
  refine j_iald g dX11_head_8 k2 hg (by omega) (by omega) ?_
  exact j_ireturn dX11_head_9 rfl rfl (⟨rfl, rfl⟩)

set_option maxRecDepth 20000 in
theorem d_branch {h : Hp} {b : Nat → Nat} {w xw : Nat} (x : Int32) (fc : FC h b w xw) : ConX mX11_branch 6 1 6 [vr (some (b 0)), vi x] h (px h b w xw ["java/lang/IndexOutOfBoundsException", "java/lang/IllegalStateException"] (if 0 ≤ x ∧ x ≤ 5 then (if x = 0 then 2 else 0) else 1) (0)) := by
  refine con_ofX rfl (Nat.le_of_ble_eq_true rfl) (by decide) (by decide) ?_
  show J mX11_branch 6 1 6 _ 0 [some (vr (some (b 0))), some (vi x)] [] h
  refine j_iload_n dX11_branch_0 rfl ?_
  refine j_callS1 dX11_branch_1 sl_X11_253 (c_isBranch _) rfl (by decide) (by omega) (by omega) (Nat.le_of_ble_eq_true rfl) (fun v_1 u_1 p_1 => ?_)
  obtain ⟨e_1, rfl⟩ := p_1
  rw [e_1]
  clear e_1
  dsimp only [rs]
  refine j_if_ne 15 dX11_branch_4 (by decide) (fun c_4 => ?_) (fun c_4 => ?_)
  · have q := b2_n.mp c_4
    obtain ⟨k, hk, hx, hv⟩ := brC fc q
    subst hx
    refine j_aload_n dX11_branch_15 rfl ?_
    refine j_getR dX11_branch_16 fl_X11_70 rfl (fcK fc 0 rfl rfl) (fcO fc 0 8 9 (by decide)) ?_
    refine j_iload_n dX11_branch_19 rfl ?_
    refine j_iald k dX11_branch_20 (fcK fc 9 rfl rfl) rfl (by rw [fcN fc 9 (c := 6) rfl rfl]; omega) (by rw [fcN fc 9 (c := 6) rfl rfl]; decide) ?_
    rw [hv]
    refine j_iconst (v := -1) dX11_branch_21 (by decide) ?_
    refine j_icmp_eq 33 dX11_branch_22 (by decide) (fun c_22 => ?_) (fun c_22 => ?_)
    · have hk0 : ¬ k = 0 := fun z => by rw [if_pos z] at c_22; exact absurd c_22 (by decide)
      have eq : (if 0 ≤ nI k ∧ nI k ≤ 5 then (if nI k = 0 then 2 else 0) else 1 : Int32) = 0 := by rw [if_pos q, if_neg (fun z => hk0 ((nI0 hk).mp z))]
      refine j_aload_n dX11_branch_33 rfl ?_
      refine j_getR dX11_branch_34 fl_X11_70 rfl (fcK fc 0 rfl rfl) (fcO fc 0 8 9 (by decide)) ?_
      refine j_iload_n dX11_branch_37 rfl ?_
      refine j_aload_n dX11_branch_38 rfl ?_
      refine j_callV0 dX11_branch_39 vl_X11_249 (d_head fc) (fcK fc 0 rfl rfl) rfl (by decide) (by omega) (by omega) (Nat.le_of_ble_eq_true rfl) (fun v_39 u_39 p_39 => ?_)
      obtain ⟨e_39, rfl⟩ := p_39
      rw [e_39]
      clear e_39
      dsimp only [rs]
      refine j_iast k dX11_branch_42 (fcK fc 9 rfl rfl) rfl (by rw [fcN fc 9 (c := 6) rfl rfl]; omega) (by rw [fcN fc 9 (c := 6) rfl rfl]; decide) ?_
      refine j_aload_n dX11_branch_43 rfl ?_
      refine j_callV0 dX11_branch_44 vl_X11_249 (c_head11 (h := pI h (b 9) k 0) (g := 0) (fcK fc 0 rfl rfl) (fcO fc 0 8 9 (by decide)) (fcK fc 9 rfl rfl) (fcN fc 9 rfl rfl) (by rw [hI_pI, if_neg (fun e => fcNe fc (i := 0) (j := 9) rfl rfl rfl e.1)]; exact fcI fc 0 12 0 (by decide)) (by decide)) (fcK fc 0 rfl rfl) rfl (by decide) (by omega) (by omega) (Nat.le_of_ble_eq_true rfl) (fun v_44 u_44 p_44 => ?_)
      obtain ⟨e_44, rfl⟩ := p_44
      rw [e_44]
      clear e_44
      dsimp only [rs]
      rw [show hI (pI h (b 9) k 0) (b 9) 0 = 0 by rw [hI_pI, if_neg (fun e => hk0 e.2.symm)]; exact fcI fc 9 0 0 (by decide)]
      exact j_ireturn dX11_branch_47 rfl rfl ⟨Fr_pI Fr_rf (Or.inl (ccB b w xw rfl)), eq, rfl⟩
    · have hk0 : k = 0 := Classical.byContradiction fun z => by rw [if_neg z] at c_22; exact c_22 rfl
      have eq : (if 0 ≤ nI k ∧ nI k ≤ 5 then (if nI k = 0 then 2 else 0) else 1 : Int32) = 2 := by rw [if_pos q, if_pos ((nI0 hk).mpr hk0)]
      exact j_throw (E := "java/lang/IllegalStateException") ⟨167, 169, by decide, dX11_branch_25, dX11_branch_28, dX11_branch_29, dX11_branch_32⟩ (by omega) (by omega) (Nat.le_of_ble_eq_true rfl) ⟨Fr_rf, by rw [eq]; decide, by rw [eq]; rfl⟩
  · exact j_throw (E := "java/lang/IndexOutOfBoundsException") ⟨117, 119, by decide, dX11_branch_7, dX11_branch_10, dX11_branch_11, dX11_branch_14⟩ (by omega) (by omega) (Nat.le_of_ble_eq_true rfl) ⟨Fr_rf, by rw [if_neg (b2_0.mp (Classical.not_not.mp c_4))]; decide, by rw [if_neg (b2_0.mp (Classical.not_not.mp c_4))]; rfl⟩

set_option maxRecDepth 20000 in
theorem d_drop {h : Hp} {b : Nat → Nat} {w xw : Nat} (fc : FC h b w xw) : Con mX11_drop 4 2 324 [vr (some (b 0))] h (fun v u => v = some (vi 0) ∧ Fr (CC b w xw) h u) := by
  refine con_of rfl (Nat.le_of_ble_eq_true rfl) (by decide) ?_
  show J mX11_drop 4 2 324 _ 0 [some (vr (some (b 0))), none] [] h
  refine j_aload_n dX11_drop_0 rfl ?_
  refine j_iconst (v := -1) dX11_drop_1 (by decide) ?_
  refine j_putI dX11_drop_2 fl_X11_77 rfl rfl rfl (fcK fc 0 rfl rfl) ?_
  rw [pI_same (fcI fc 0 13 (-1) (by decide))]
  refine j_aload_n dX11_drop_5 rfl ?_
  refine j_getR dX11_drop_6 fl_X11_46 rfl (fcK fc 0 rfl rfl) (fcO fc 0 4 5 (by decide)) ?_
  refine j_iconst (v := 0) dX11_drop_9 (by decide) ?_
  refine j_putI dX11_drop_10 fl_X11_252 rfl rfl rfl (fcK fc 5 rfl rfl) ?_
  rw [pI_same (fcI fc 5 2 0 (by decide))]
  refine j_aload_n dX11_drop_13 rfl ?_
  refine j_getR dX11_drop_14 fl_X11_53 rfl (fcK fc 0 rfl rfl) (fcO fc 0 5 6 (by decide)) ?_
  refine j_callV0 dX11_drop_17 vl_X11_266 (c_forget7 (fcK fc 6 rfl rfl)) (fcK fc 6 rfl rfl) rfl (by decide) (by omega) (by omega) (Nat.le_of_ble_eq_true rfl) (fun v_17 u_17 p_17 => ?_)
  obtain ⟨rfl, rfl⟩ := p_17
  rw [pI_same (fcI fc 6 2 0 (by decide)), pI_same (fcI fc 6 3 0 (by decide))]
  dsimp only [rs]
  skip
  refine j_aload_n dX11_drop_20 rfl ?_
  refine j_getR dX11_drop_21 fl_X11_26 rfl (fcK fc 0 rfl rfl) (fcO fc 0 2 3 (by decide)) ?_
  refine j_aload_n dX11_drop_24 rfl ?_
  refine j_callV0 dX11_drop_25 vl_X11_249 (d_head fc) (fcK fc 0 rfl rfl) rfl (by decide) (by omega) (by omega) (Nat.le_of_ble_eq_true rfl) (fun v_25 u_25 p_25 => ?_)
  obtain ⟨e_25, rfl⟩ := p_25
  rw [e_25]
  clear e_25
  dsimp only [rs]
  refine j_callV1 dX11_drop_28 vl_X11_269 (c_logAt _ (fcLg fc)) (fcK fc 3 rfl rfl) rfl (by decide) (by omega) (by omega) (Nat.le_of_ble_eq_true rfl) (fun v_28 u_28 p_28 => ?_)
  obtain ⟨e_28, rfl⟩ := p_28
  rw [e_28]
  clear e_28
  dsimp only [rs]
  rw [shV_0 fc]
  refine j_astore_n dX11_drop_31 (by decide) ?_
  dsimp only [st1, st2, unL, List.set]
  refine j_aload_n dX11_drop_32 rfl ?_
  refine j_ifnull 44 dX11_drop_33 (by decide) (fun c_33 => ?_) (fun c_33 => ?_)
  · exact absurd c_33 (fun e => by cases e)
  · refine j_aload_n dX11_drop_36 rfl ?_
    refine j_aload_n dX11_drop_37 rfl ?_
    refine j_callV0 dX11_drop_38 vl_X11_100 (c_twin (fcS0 fc) (fun k v _ hv => by rw [fcX0 fc k] at hv; cases hv)) (by first | exact (fcS0 fc).1 | exact fcK fc 0 rfl rfl | exact fcK fc2 0 rfl rfl | exact fcK fc 6 rfl rfl) rfl (by decide) (by omega) (by omega) (Nat.le_of_ble_eq_true rfl) (fun v_38 u_38 p_38 => ?_)
    obtain ⟨q, xq, rfl, hq0, hxq0, hS2, hEx, -⟩ := p_38
    have fc2 := FC_ex fc hEx
    dsimp only [rs]
    refine j_callV1 dX11_drop_41 vl_X11_230 (c_show (fcK fc2 0 rfl rfl) (fcW fc2) (fcS fc2).1) (by first | exact (fcS0 fc).1 | exact fcK fc 0 rfl rfl | exact fcK fc2 0 rfl rfl | exact fcK fc 6 rfl rfl) rfl (by decide) (by omega) (by omega) (Nat.le_of_ble_eq_true rfl) (fun v_41 u_41 p_41 => ?_)
    obtain ⟨rfl, rfl⟩ := p_41
    dsimp only [rs]
    refine j_aload_n dX11_drop_44 rfl ?_
    refine j_callV0 dX11_drop_45 vl_X11_249 (c_head11 (h := pO (pO u_38 w 3 none) (b 0) 11 (some q)) (g := 0) (fcK fc2 0 rfl rfl) (by rw [hO_pO, if_neg (fun e => absurd e.2 (by decide)), hO_pO, if_neg (fun e => (fcWn fc 0 rfl).1 e.1)]; exact fcO fc2 0 8 9 (by decide)) (fcK fc2 9 rfl rfl) (fcN fc2 9 rfl rfl) (fcI fc2 0 12 0 (by decide)) (by decide)) (by first | exact (fcS0 fc).1 | exact fcK fc 0 rfl rfl | exact fcK fc2 0 rfl rfl | exact fcK fc 6 rfl rfl) rfl (by decide) (by omega) (by omega) (Nat.le_of_ble_eq_true rfl) (fun v_45 u_45 p_45 => ?_)
    obtain ⟨e_45, rfl⟩ := p_45
    rw [e_45]
    clear e_45
    dsimp only [rs]
    rw [show hI (pO (pO u_38 w 3 none) (b 0) 11 (some q)) (b 9) 0 = 0 from fcI fc2 9 0 0 (by decide)]
    exact j_ireturn dX11_drop_48 rfl rfl ⟨rfl, Fr_pO (Fr_pO (frE hEx) (Or.inl (ccW b w xw))) (Or.inl (ccB b w xw rfl))⟩

set_option maxRecDepth 20000 in
theorem d_go {h : Hp} {b : Nat → Nat} {w xw : Nat} (x : Int32) (fc : FC h b w xw) : ConX mX11_go 6 2 324 [vr (some (b 0)), vi x] h (px h b w xw ["java/lang/IndexOutOfBoundsException", "java/util/NoSuchElementException", "java/lang/IllegalStateException"] (if 0 ≤ x ∧ x ≤ 5 then (if x = 0 then 0 else 2) else 1) (0)) := by
  refine con_ofX rfl (Nat.le_of_ble_eq_true rfl) (by decide) (by decide) ?_
  show J mX11_go 6 2 324 _ 0 [some (vr (some (b 0))), some (vi x)] [] h
  refine j_iload_n dX11_go_0 rfl ?_
  refine j_callS1 dX11_go_1 sl_X11_253 (c_isBranch _) rfl (by decide) (by omega) (by omega) (Nat.le_of_ble_eq_true rfl) (fun v_1 u_1 p_1 => ?_)
  obtain ⟨e_1, rfl⟩ := p_1
  rw [e_1]
  clear e_1
  dsimp only [rs]
  refine j_if_ne 15 dX11_go_4 (by decide) (fun c_4 => ?_) (fun c_4 => ?_)
  · have q := b2_n.mp c_4
    obtain ⟨k, hk, hx, hv⟩ := brC fc q
    subst hx
    refine j_aload_n dX11_go_15 rfl ?_
    refine j_getR dX11_go_16 fl_X11_70 rfl (fcK fc 0 rfl rfl) (fcO fc 0 8 9 (by decide)) ?_
    refine j_iload_n dX11_go_19 rfl ?_
    refine j_iald k dX11_go_20 (fcK fc 9 rfl rfl) rfl (by rw [fcN fc 9 (c := 6) rfl rfl]; omega) (by rw [fcN fc 9 (c := 6) rfl rfl]; decide) ?_
    rw [hv]
    refine j_iconst (v := -1) dX11_go_21 (by decide) ?_
    refine j_icmp_ne 33 dX11_go_22 (by decide) (fun c_22 => ?_) (fun c_22 => ?_)
    · have hk0 : k = 0 := Classical.byContradiction fun z => by rw [if_neg z] at c_22; exact c_22 rfl
      subst hk0
      have eq : (if 0 ≤ nI 0 ∧ nI 0 ≤ 5 then (if nI 0 = 0 then 0 else 2) else 1 : Int32) = 0 := by decide
      refine j_aload_n dX11_go_33 rfl ?_
      refine j_callV0 dX11_go_34 vl_X11_256 (d_isBusy fc) (fcK fc 0 rfl rfl) rfl (by decide) (by omega) (by omega) (Nat.le_of_ble_eq_true rfl) (fun v_34 u_34 p_34 => ?_)
      obtain ⟨e_34, rfl⟩ := p_34
      rw [e_34]
      clear e_34
      dsimp only [rs]
      refine j_if_ne 47 dX11_go_37 (by decide) (fun c_37 => ?_) (fun c_37 => ?_)
      · exact absurd c_37 (by decide)
      · refine j_aload_n dX11_go_40 rfl ?_
        refine j_callV0 dX11_go_41 vl_X11_260 (d_isLikeHead fc) (fcK fc 0 rfl rfl) rfl (by decide) (by omega) (by omega) (Nat.le_of_ble_eq_true rfl) (fun v_41 u_41 p_41 => ?_)
        obtain ⟨e_41, rfl⟩ := p_41
        rw [e_41]
        clear e_41
        dsimp only [rs]
        refine j_if_ne 55 dX11_go_44 (by decide) (fun c_44 => ?_) (fun c_44 => ?_)
        · refine j_aload_n dX11_go_55 rfl ?_
          refine j_iload_n dX11_go_56 rfl ?_
          refine j_putI dX11_go_57 fl_X11_246 rfl rfl rfl (fcK fc 0 rfl rfl) ?_
          rw [pI_same (show hI h (b 0) 12 = nI 0 from fcI fc 0 12 0 (by decide))]
          refine j_aload_n dX11_go_60 rfl ?_
          refine j_callV0 dX11_go_61 vl_X11_263 (d_drop fc) (fcK fc 0 rfl rfl) rfl (by decide) (by omega) (by omega) (Nat.le_of_ble_eq_true rfl) (fun v_61 u_61 p_61 => ?_)
          obtain ⟨rfl, hF⟩ := p_61
          dsimp only [rs]
          exact j_ireturn dX11_go_64 rfl rfl ⟨hF, eq, rfl⟩
        · exact absurd (by decide) c_44
    · have hk0 : ¬ k = 0 := fun z => by rw [if_pos z] at c_22; exact absurd (by decide) c_22
      have eq : (if 0 ≤ nI k ∧ nI k ≤ 5 then (if nI k = 0 then 0 else 2) else 1 : Int32) = 2 := by rw [if_pos q, if_neg (fun z => hk0 ((nI0 hk).mp z))]
      exact j_throw (E := "java/util/NoSuchElementException") ⟨223, 225, by decide, dX11_go_25, dX11_go_28, dX11_go_29, dX11_go_32⟩ (by omega) (by omega) (Nat.le_of_ble_eq_true rfl) ⟨Fr_rf, by rw [eq]; decide, by rw [eq]; rfl⟩
  · exact j_throw (E := "java/lang/IndexOutOfBoundsException") ⟨117, 119, by decide, dX11_go_7, dX11_go_10, dX11_go_11, dX11_go_14⟩ (by omega) (by omega) (Nat.le_of_ble_eq_true rfl) ⟨Fr_rf, by rw [if_neg (b2_0.mp (Classical.not_not.mp c_4))]; decide, by rw [if_neg (b2_0.mp (Classical.not_not.mp c_4))]; rfl⟩

set_option maxRecDepth 20000 in
theorem d_merge {h : Hp} {b : Nat → Nat} {w xw : Nat} (x : Int32) (fc : FC h b w xw) : ConX mX11_merge 6 1 6 [vr (some (b 0)), vi x] h (px h b w xw ["java/lang/IndexOutOfBoundsException", "java/util/NoSuchElementException", "java/lang/UnsupportedOperationException", "java/lang/IllegalStateException"] (if 0 ≤ x ∧ x ≤ 5 then (if x = 0 then 0 else 2) else 1) (if 0 ≤ x ∧ x ≤ 5 then (if x = 0 then -1 else 0) else 0)) := by
  refine con_ofX rfl (Nat.le_of_ble_eq_true rfl) (by decide) (by decide) ?_
  show J mX11_merge 6 1 6 _ 0 [some (vr (some (b 0))), some (vi x), none, none, none] [] h
  refine j_iload_n dX11_merge_0 rfl ?_
  refine j_callS1 dX11_merge_1 sl_X11_253 (c_isBranch _) rfl (by decide) (by omega) (by omega) (Nat.le_of_ble_eq_true rfl) (fun v_1 u_1 p_1 => ?_)
  obtain ⟨e_1, rfl⟩ := p_1
  rw [e_1]
  clear e_1
  dsimp only [rs]
  refine j_if_ne 15 dX11_merge_4 (by decide) (fun c_4 => ?_) (fun c_4 => ?_)
  · have q := b2_n.mp c_4
    obtain ⟨k, hk, hx, hv⟩ := brC fc q
    subst hx
    refine j_aload_n dX11_merge_15 rfl ?_
    refine j_getR dX11_merge_16 fl_X11_70 rfl (fcK fc 0 rfl rfl) (fcO fc 0 8 9 (by decide)) ?_
    refine j_iload_n dX11_merge_19 rfl ?_
    refine j_iald k dX11_merge_20 (fcK fc 9 rfl rfl) rfl (by rw [fcN fc 9 (c := 6) rfl rfl]; omega) (by rw [fcN fc 9 (c := 6) rfl rfl]; decide) ?_
    rw [hv]
    refine j_istore_n dX11_merge_21 (by decide) ?_
    dsimp only [st1, st2, unL, List.set]
    refine j_iload_n dX11_merge_22 rfl ?_
    refine j_iconst (v := -1) dX11_merge_23 (by decide) ?_
    refine j_icmp_ne 35 dX11_merge_24 (by decide) (fun c_24 => ?_) (fun c_24 => ?_)
    · have hk0 : k = 0 := Classical.byContradiction fun z => by rw [if_neg z] at c_24; exact c_24 rfl
      subst hk0
      have eq : (if 0 ≤ nI 0 ∧ nI 0 ≤ 5 then (if nI 0 = 0 then 0 else 2) else 1 : Int32) = 0 := by decide
      refine j_aload_n dX11_merge_35 rfl ?_
      refine j_getI dX11_merge_36 fl_X11_272 rfl (fcK fc 0 rfl rfl) ?_
      rw [fcI fc 0 15 (0) (by decide)]
      refine j_sipush (v := 200) dX11_merge_39 (by decide) ?_
      refine j_icmp_lt 53 dX11_merge_42 (by decide) (fun c_42 => ?_) (fun c_42 => ?_)
      · refine j_aload_n dX11_merge_53 rfl ?_
        refine j_callV0 dX11_merge_54 vl_X11_256 (d_isBusy fc) (fcK fc 0 rfl rfl) rfl (by decide) (by omega) (by omega) (Nat.le_of_ble_eq_true rfl) (fun v_54 u_54 p_54 => ?_)
        obtain ⟨e_54, rfl⟩ := p_54
        rw [e_54]
        clear e_54
        dsimp only [rs]
        refine j_if_eq 68 dX11_merge_57 (by decide) (fun c_57 => ?_) (fun c_57 => ?_)
        · refine j_aload_n dX11_merge_68 rfl ?_
          refine j_getR dX11_merge_69 fl_X11_26 rfl (fcK fc 0 rfl rfl) (fcO fc 0 2 3 (by decide)) ?_
          refine j_aload_n dX11_merge_72 rfl ?_
          refine j_callV0 dX11_merge_73 vl_X11_249 (d_head fc) (fcK fc 0 rfl rfl) rfl (by decide) (by omega) (by omega) (Nat.le_of_ble_eq_true rfl) (fun v_73 u_73 p_73 => ?_)
          obtain ⟨e_73, rfl⟩ := p_73
          rw [e_73]
          clear e_73
          dsimp only [rs]
          refine j_iload_n dX11_merge_76 rfl ?_
          rw [if_pos (show (0 : Nat) = 0 from rfl)]
          refine j_callV2 dX11_merge_77 vl_X11_275 (d_commonOf fc) (fcK fc 3 rfl rfl) rfl (by decide) (by omega) (by omega) (Nat.le_of_ble_eq_true rfl) (fun v_77 u_77 p_77 => ?_)
          obtain ⟨e_77, rfl⟩ := p_77
          rw [e_77]
          clear e_77
          dsimp only [rs]
          refine j_istore_n dX11_merge_80 (by decide) ?_
          dsimp only [st1, st2, unL, List.set]
          refine j_iload_n dX11_merge_81 rfl ?_
          refine j_iload_n dX11_merge_82 rfl ?_
          refine j_icmp_ne 88 dX11_merge_83 (by decide) (fun c_83 => ?_) (fun c_83 => ?_)
          · exact absurd c_83 (fun e => e rfl)
          · refine j_iconst (v := -1) dX11_merge_86 (by decide) ?_
            exact j_ireturn dX11_merge_87 rfl rfl ⟨Fr_rf, eq, rfl⟩
        · exact absurd rfl c_57
      · exact absurd (by decide) c_42
    · have hk0 : ¬ k = 0 := fun z => by rw [if_pos z] at c_24; exact absurd (by decide) c_24
      have eq : (if 0 ≤ nI k ∧ nI k ≤ 5 then (if nI k = 0 then 0 else 2) else 1 : Int32) = 2 := by rw [if_pos q, if_neg (fun z => hk0 ((nI0 hk).mp z))]
      exact j_throw (E := "java/util/NoSuchElementException") ⟨223, 225, by decide, dX11_merge_27, dX11_merge_30, dX11_merge_31, dX11_merge_34⟩ (by omega) (by omega) (Nat.le_of_ble_eq_true rfl) ⟨Fr_rf, by rw [eq]; decide, by rw [eq]; rfl⟩
  · exact j_throw (E := "java/lang/IndexOutOfBoundsException") ⟨117, 119, by decide, dX11_merge_7, dX11_merge_10, dX11_merge_11, dX11_merge_14⟩ (by omega) (by omega) (Nat.le_of_ble_eq_true rfl) ⟨Fr_rf, by rw [if_neg (b2_0.mp (Classical.not_not.mp c_4))]; decide, by rw [if_neg (b2_0.mp (Classical.not_not.mp c_4))]; rfl⟩

