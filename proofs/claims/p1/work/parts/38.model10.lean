/-! ===== the model on a fresh object: copied, fed, entered, compared ===== -/
set_option maxRecDepth 20000 in
theorem l_feed {g : Nat → Nat} {a b c d e : Int32}  : ∀ (n : Nat) (i : Nat) (u : Hp), 20 - i < n → (i ≤ 20 ∧ MW u g ∧ hI u (g 0) 40 = 0) → J mX12_feed 1 0 0 (nx (fun v u => v = some (vi 20))) 23 [some (vr (some (g 0))), some (vi a), some (vi b), some (vi c), some (vi d), some (vi e), some (vi (nI i)), none] [] u := by
  intro n
  induction n with
  | zero => intro i u hlt; omega
  | succ n ih =>
    intro i u hlt hinv
    obtain ⟨hi, hm, y40⟩ := hinv
    refine j_iload dX12_feed_23 rfl ?_
    refine j_bipush (v := 20) dX12_feed_25 (by decide) ?_
    refine j_icmp_ge 113 dX12_feed_27 (by decide) (fun c_27 => ?_) (fun c_27 => ?_)
    · refine j_aload_n dX12_feed_113 rfl ?_
      refine j_aload_n dX12_feed_114 rfl ?_
      refine j_getI dX12_feed_115 fl_X12_258 rfl hm.1 ?_
      rw [y40]
      refine j_bipush (v := 20) dX12_feed_118 (by decide) ?_
      refine j_iadd dX12_feed_120 ?_
      refine j_putI dX12_feed_121 fl_X12_258 rfl rfl rfl hm.1 ?_
      refine j_aload_n dX12_feed_124 rfl ?_
      refine j_getI dX12_feed_125 fl_X12_258 rfl hm.1 ?_
      rw [show hI (pI u (g 0) 40 (0 + 20)) (g 0) 40 = 20 by rw [hI_pI, if_pos ⟨rfl, rfl⟩]; rfl]
      exact j_ireturn dX12_feed_128 rfl rfl (rfl)
    · have hlt2 : i < 20 := by rw [li_20, nI_leI (by omega) (by omega)] at c_27; omega
      refine j_iload dX12_feed_30 rfl ?_
      refine j_iconst (v := 4) dX12_feed_32 (by decide) ?_
      refine j_icmp_ge 40 dX12_feed_33 (by decide) (fun c_33 => ?_) (fun c_33 => ?_)
      · refine j_iload dX12_feed_40 rfl ?_
        refine j_bipush (v := 8) dX12_feed_42 (by decide) ?_
        refine j_icmp_ge 51 dX12_feed_44 (by decide) (fun c_44 => ?_) (fun c_44 => ?_)
        · refine j_iload dX12_feed_51 rfl ?_
          refine j_bipush (v := 12) dX12_feed_53 (by decide) ?_
          refine j_icmp_ge 62 dX12_feed_55 (by decide) (fun c_55 => ?_) (fun c_55 => ?_)
          · refine j_iload dX12_feed_62 rfl ?_
            refine j_bipush (v := 16) dX12_feed_64 (by decide) ?_
            refine j_icmp_ge 74 dX12_feed_66 (by decide) (fun c_66 => ?_) (fun c_66 => ?_)
            · refine j_iload dX12_feed_74 rfl ?_
              refine j_istore dX12_feed_76 (by decide) ?_
              dsimp only [st1, st2, unL, List.set]
              refine j_aload_n dX12_feed_78 rfl ?_
              refine j_getR dX12_feed_79 fl_X12_106 rfl hm.1 (mO hm rfl) ?_
              refine j_aload_n dX12_feed_82 rfl ?_
              refine j_getI dX12_feed_83 fl_X12_258 rfl hm.1 ?_
              refine j_iload dX12_feed_86 rfl ?_
              refine j_iadd dX12_feed_88 ?_
              refine j_iload dX12_feed_89 rfl ?_
              refine j_bipush (v := 24) dX12_feed_91 (by decide) ?_
              refine j_bipush (v := 8) dX12_feed_93 (by decide) ?_
              refine j_iload dX12_feed_95 rfl ?_
              refine j_iconst (v := 3) dX12_feed_97 (by decide) ?_
              refine j_iand dX12_feed_98 ?_
              refine j_imul dX12_feed_99 ?_
              refine j_isub dX12_feed_100 ?_
              refine j_ishr dX12_feed_101 ?_
              refine j_sipush (v := 255) dX12_feed_102 (by decide) ?_
              refine j_iand dX12_feed_105 ?_
              refine j_iast i dX12_feed_106 (mK hm rfl) (by rw [y40, li_0, nI_add]; congr 1; omega) (Nat.lt_of_lt_of_eq (by omega) (mN hm (k := 39) (n := 400) rfl rfl).symm) (Nat.lt_of_le_of_lt (Nat.le_of_eq (mN hm (k := 39) (n := 400) rfl rfl)) (by decide)) ?_
              refine j_iinc dX12_feed_107 rfl ?_
              dsimp only [st1, st2, unL, List.set]
              refine j_goto 23 dX12_feed_110 (by decide) ?_
              refine j_lle (lv' := [some (vr (some (g 0))), some (vi a), some (vi b), some (vi c), some (vi d), some (vi e), some (vi (nI (i + 1))), none]) (by simp [lle, nI_1]) ?_
              exact ih (i + 1) _ (by omega) ⟨by omega, hm, by rw [hI_pIn (mNe hm (i := 0) (j := 39) rfl rfl rfl)]; exact y40⟩
            · refine j_iload dX12_feed_69 rfl ?_
              refine j_goto 76 dX12_feed_71 (by decide) ?_
              refine j_istore dX12_feed_76 (by decide) ?_
              dsimp only [st1, st2, unL, List.set]
              refine j_aload_n dX12_feed_78 rfl ?_
              refine j_getR dX12_feed_79 fl_X12_106 rfl hm.1 (mO hm rfl) ?_
              refine j_aload_n dX12_feed_82 rfl ?_
              refine j_getI dX12_feed_83 fl_X12_258 rfl hm.1 ?_
              refine j_iload dX12_feed_86 rfl ?_
              refine j_iadd dX12_feed_88 ?_
              refine j_iload dX12_feed_89 rfl ?_
              refine j_bipush (v := 24) dX12_feed_91 (by decide) ?_
              refine j_bipush (v := 8) dX12_feed_93 (by decide) ?_
              refine j_iload dX12_feed_95 rfl ?_
              refine j_iconst (v := 3) dX12_feed_97 (by decide) ?_
              refine j_iand dX12_feed_98 ?_
              refine j_imul dX12_feed_99 ?_
              refine j_isub dX12_feed_100 ?_
              refine j_ishr dX12_feed_101 ?_
              refine j_sipush (v := 255) dX12_feed_102 (by decide) ?_
              refine j_iand dX12_feed_105 ?_
              refine j_iast i dX12_feed_106 (mK hm rfl) (by rw [y40, li_0, nI_add]; congr 1; omega) (Nat.lt_of_lt_of_eq (by omega) (mN hm (k := 39) (n := 400) rfl rfl).symm) (Nat.lt_of_le_of_lt (Nat.le_of_eq (mN hm (k := 39) (n := 400) rfl rfl)) (by decide)) ?_
              refine j_iinc dX12_feed_107 rfl ?_
              dsimp only [st1, st2, unL, List.set]
              refine j_goto 23 dX12_feed_110 (by decide) ?_
              refine j_lle (lv' := [some (vr (some (g 0))), some (vi a), some (vi b), some (vi c), some (vi d), some (vi e), some (vi (nI (i + 1))), none]) (by simp [lle, nI_1]) ?_
              exact ih (i + 1) _ (by omega) ⟨by omega, hm, by rw [hI_pIn (mNe hm (i := 0) (j := 39) rfl rfl rfl)]; exact y40⟩
          · refine j_iload_n dX12_feed_58 rfl ?_
            refine j_goto 76 dX12_feed_59 (by decide) ?_
            refine j_istore dX12_feed_76 (by decide) ?_
            dsimp only [st1, st2, unL, List.set]
            refine j_aload_n dX12_feed_78 rfl ?_
            refine j_getR dX12_feed_79 fl_X12_106 rfl hm.1 (mO hm rfl) ?_
            refine j_aload_n dX12_feed_82 rfl ?_
            refine j_getI dX12_feed_83 fl_X12_258 rfl hm.1 ?_
            refine j_iload dX12_feed_86 rfl ?_
            refine j_iadd dX12_feed_88 ?_
            refine j_iload dX12_feed_89 rfl ?_
            refine j_bipush (v := 24) dX12_feed_91 (by decide) ?_
            refine j_bipush (v := 8) dX12_feed_93 (by decide) ?_
            refine j_iload dX12_feed_95 rfl ?_
            refine j_iconst (v := 3) dX12_feed_97 (by decide) ?_
            refine j_iand dX12_feed_98 ?_
            refine j_imul dX12_feed_99 ?_
            refine j_isub dX12_feed_100 ?_
            refine j_ishr dX12_feed_101 ?_
            refine j_sipush (v := 255) dX12_feed_102 (by decide) ?_
            refine j_iand dX12_feed_105 ?_
            refine j_iast i dX12_feed_106 (mK hm rfl) (by rw [y40, li_0, nI_add]; congr 1; omega) (Nat.lt_of_lt_of_eq (by omega) (mN hm (k := 39) (n := 400) rfl rfl).symm) (Nat.lt_of_le_of_lt (Nat.le_of_eq (mN hm (k := 39) (n := 400) rfl rfl)) (by decide)) ?_
            refine j_iinc dX12_feed_107 rfl ?_
            dsimp only [st1, st2, unL, List.set]
            refine j_goto 23 dX12_feed_110 (by decide) ?_
            refine j_lle (lv' := [some (vr (some (g 0))), some (vi a), some (vi b), some (vi c), some (vi d), some (vi e), some (vi (nI (i + 1))), none]) (by simp [lle, nI_1]) ?_
            exact ih (i + 1) _ (by omega) ⟨by omega, hm, by rw [hI_pIn (mNe hm (i := 0) (j := 39) rfl rfl rfl)]; exact y40⟩
        · refine j_iload_n dX12_feed_47 rfl ?_
          refine j_goto 76 dX12_feed_48 (by decide) ?_
          refine j_istore dX12_feed_76 (by decide) ?_
          dsimp only [st1, st2, unL, List.set]
          refine j_aload_n dX12_feed_78 rfl ?_
          refine j_getR dX12_feed_79 fl_X12_106 rfl hm.1 (mO hm rfl) ?_
          refine j_aload_n dX12_feed_82 rfl ?_
          refine j_getI dX12_feed_83 fl_X12_258 rfl hm.1 ?_
          refine j_iload dX12_feed_86 rfl ?_
          refine j_iadd dX12_feed_88 ?_
          refine j_iload dX12_feed_89 rfl ?_
          refine j_bipush (v := 24) dX12_feed_91 (by decide) ?_
          refine j_bipush (v := 8) dX12_feed_93 (by decide) ?_
          refine j_iload dX12_feed_95 rfl ?_
          refine j_iconst (v := 3) dX12_feed_97 (by decide) ?_
          refine j_iand dX12_feed_98 ?_
          refine j_imul dX12_feed_99 ?_
          refine j_isub dX12_feed_100 ?_
          refine j_ishr dX12_feed_101 ?_
          refine j_sipush (v := 255) dX12_feed_102 (by decide) ?_
          refine j_iand dX12_feed_105 ?_
          refine j_iast i dX12_feed_106 (mK hm rfl) (by rw [y40, li_0, nI_add]; congr 1; omega) (Nat.lt_of_lt_of_eq (by omega) (mN hm (k := 39) (n := 400) rfl rfl).symm) (Nat.lt_of_le_of_lt (Nat.le_of_eq (mN hm (k := 39) (n := 400) rfl rfl)) (by decide)) ?_
          refine j_iinc dX12_feed_107 rfl ?_
          dsimp only [st1, st2, unL, List.set]
          refine j_goto 23 dX12_feed_110 (by decide) ?_
          refine j_lle (lv' := [some (vr (some (g 0))), some (vi a), some (vi b), some (vi c), some (vi d), some (vi e), some (vi (nI (i + 1))), none]) (by simp [lle, nI_1]) ?_
          exact ih (i + 1) _ (by omega) ⟨by omega, hm, by rw [hI_pIn (mNe hm (i := 0) (j := 39) rfl rfl rfl)]; exact y40⟩
      · refine j_iload_n dX12_feed_36 rfl ?_
        refine j_goto 76 dX12_feed_37 (by decide) ?_
        refine j_istore dX12_feed_76 (by decide) ?_
        dsimp only [st1, st2, unL, List.set]
        refine j_aload_n dX12_feed_78 rfl ?_
        refine j_getR dX12_feed_79 fl_X12_106 rfl hm.1 (mO hm rfl) ?_
        refine j_aload_n dX12_feed_82 rfl ?_
        refine j_getI dX12_feed_83 fl_X12_258 rfl hm.1 ?_
        refine j_iload dX12_feed_86 rfl ?_
        refine j_iadd dX12_feed_88 ?_
        refine j_iload dX12_feed_89 rfl ?_
        refine j_bipush (v := 24) dX12_feed_91 (by decide) ?_
        refine j_bipush (v := 8) dX12_feed_93 (by decide) ?_
        refine j_iload dX12_feed_95 rfl ?_
        refine j_iconst (v := 3) dX12_feed_97 (by decide) ?_
        refine j_iand dX12_feed_98 ?_
        refine j_imul dX12_feed_99 ?_
        refine j_isub dX12_feed_100 ?_
        refine j_ishr dX12_feed_101 ?_
        refine j_sipush (v := 255) dX12_feed_102 (by decide) ?_
        refine j_iand dX12_feed_105 ?_
        refine j_iast i dX12_feed_106 (mK hm rfl) (by rw [y40, li_0, nI_add]; congr 1; omega) (Nat.lt_of_lt_of_eq (by omega) (mN hm (k := 39) (n := 400) rfl rfl).symm) (Nat.lt_of_le_of_lt (Nat.le_of_eq (mN hm (k := 39) (n := 400) rfl rfl)) (by decide)) ?_
        refine j_iinc dX12_feed_107 rfl ?_
        dsimp only [st1, st2, unL, List.set]
        refine j_goto 23 dX12_feed_110 (by decide) ?_
        refine j_lle (lv' := [some (vr (some (g 0))), some (vi a), some (vi b), some (vi c), some (vi d), some (vi e), some (vi (nI (i + 1))), none]) (by simp [lle, nI_1]) ?_
        exact ih (i + 1) _ (by omega) ⟨by omega, hm, by rw [hI_pIn (mNe hm (i := 0) (j := 39) rfl rfl rfl)]; exact y40⟩

set_option maxRecDepth 20000 in
theorem e_feed {h : Hp} {g : Nat → Nat} (a b c d e : Int32) (hf : FM h g) : Con mX12_feed 1 0 0 [vr (some (g 0)), vi a, vi b, vi c, vi d, vi e] h (fun v u => v = some (vi 20)) := by
  obtain ⟨hm, z0, z1, z2, z3, z4, z5, z9, z10, z11, z64⟩ := id hf
  refine con_of rfl (Nat.le_of_ble_eq_true rfl) (by decide) ?_
  show J mX12_feed 1 0 0 _ 0 [some (vr (some (g 0))), some (vi a), some (vi b), some (vi c), some (vi d), some (vi e), none, none] [] h
  refine j_aload_n dX12_feed_0 rfl ?_
  refine j_iconst (v := 0) dX12_feed_1 (by decide) ?_
  refine j_putI dX12_feed_2 fl_X12_202 rfl rfl rfl hm.1 ?_
  rw [pI_same (fmI z0 0 (v := 0) rfl)]
  refine j_aload_n dX12_feed_5 rfl ?_
  refine j_getI dX12_feed_6 fl_X12_258 rfl hm.1 ?_
  rw [fmI z0 40 (v := 0) rfl]
  refine j_bipush (v := 20) dX12_feed_9 (by decide) ?_
  refine j_iadd dX12_feed_11 ?_
  refine j_sipush (v := 400) dX12_feed_12 (by decide) ?_
  refine j_icmp_le 20 dX12_feed_15 (by decide) (fun c_15 => ?_) (fun c_15 => ?_)
  · refine j_iconst (v := 0) dX12_feed_20 (by decide) ?_
    refine j_istore dX12_feed_21 (by decide) ?_
    dsimp only [st1, st2, unL, List.set]
    refine j_lle (lv' := [some (vr (some (g 0))), some (vi a), some (vi b), some (vi c), some (vi d), some (vi e), some (vi (nI 0)), none]) (by simp [lle]; rfl) ?_
    exact l_feed 21 0 _ (by omega) ⟨by omega, hm, fmI z0 40 rfl⟩
  · exact absurd (by decide) c_15

set_option maxRecDepth 20000 in
theorem e_plain0 {h : Hp} {g : Nat → Nat} (hm : MW h g) (q43 : hI h (g 0) 43 = 0) (q44 : hI h (g 0) 44 = 0) (q41 : hI h (g 0) 41 = 0) : Con mX12_plainEntered 2 0 0 [vr (some (g 0))] h (fun v u => u = h ∧ v = some (vi (0))) := by
  refine con_of rfl (Nat.le_of_ble_eq_true rfl) (by decide) ?_
  show J mX12_plainEntered 2 0 0 _ 0 [some (vr (some (g 0))), none, none, none, none] [] h
  refine j_aload_n dX12_plainEntered_0 rfl ?_
  refine j_getI dX12_plainEntered_1 fl_X12_290 rfl hm.1 ?_
  rw [q43]
  refine j_istore_n dX12_plainEntered_4 (by decide) ?_
  dsimp only [st1, st2, unL, List.set]
  refine j_iload_n dX12_plainEntered_5 rfl ?_
  refine j_aload_n dX12_plainEntered_6 rfl ?_
  refine j_getI dX12_plainEntered_7 fl_X12_261 rfl hm.1 ?_
  refine j_icmp_ge 37 dX12_plainEntered_10 (by decide) (fun c_10 => ?_) (fun c_10 => ?_)
  · refine j_aload_n dX12_plainEntered_37 rfl ?_
    refine j_getI dX12_plainEntered_38 fl_X12_261 rfl hm.1 ?_
    refine j_aload_n dX12_plainEntered_41 rfl ?_
    refine j_getI dX12_plainEntered_42 fl_X12_290 rfl hm.1 ?_
    rw [q44, q43]
    refine j_isub dX12_plainEntered_45 ?_
    refine j_istore_n dX12_plainEntered_46 (by decide) ?_
    dsimp only [st1, st2, unL, List.set]
    refine j_aload_n dX12_plainEntered_47 rfl ?_
    refine j_getI dX12_plainEntered_48 fl_X12_277 rfl hm.1 ?_
    refine j_if_gt 58 dX12_plainEntered_51 (by decide) (fun c_51 => ?_) (fun c_51 => ?_)
    · exact absurd c_51 (by rw [q41]; decide)
    · refine j_iload_n dX12_plainEntered_54 rfl ?_
      refine j_if_ne 60 dX12_plainEntered_55 (by decide) (fun c_55 => ?_) (fun c_55 => ?_)
      · exact absurd c_55 (by decide)
      · refine j_iconst (v := 0) dX12_plainEntered_58 (by decide) ?_
        exact j_ireturn dX12_plainEntered_59 rfl rfl (⟨rfl, rfl⟩)
  · exact absurd (by rw [q44]; decide) c_10

set_option maxRecDepth 20000 in
theorem e_enter {h : Hp} {g : Nat → Nat} (x y : Int32) (hf : FM h g) : Con mX12_enter 6 0 0 [vr (some (g 0)), vi x, vi y] h (an g 0 (if inSh 8 6 x y then 0 else 1)) := by
  obtain ⟨hm, z0, z1, z2, z3, z4, z5, z9, z10, z11, z64⟩ := id hf
  refine con_of rfl (Nat.le_of_ble_eq_true rfl) (by decide) ?_
  show J mX12_enter 6 0 0 _ 0 [some (vr (some (g 0))), some (vi x), some (vi y), none, none, none] [] h
  refine j_aload_n dX12_enter_0 rfl ?_
  refine j_iconst (v := 0) dX12_enter_1 (by decide) ?_
  refine j_putI dX12_enter_2 fl_X12_202 rfl rfl rfl hm.1 ?_
  rw [pI_same (fmI z0 0 (v := 0) rfl)]
  refine j_aload_n dX12_enter_5 rfl ?_
  refine j_bipush (v := 40) dX12_enter_6 (by decide) ?_
  refine j_iload_n dX12_enter_8 rfl ?_
  refine j_iload_n dX12_enter_9 rfl ?_
  refine j_callV3 dX12_enter_10 vl_X12_321 (c_isCell12 40 (by decide) (nr := 8) (nc := 6) _ _ hm (by rw [z1]; rfl) (by rw [z2]; rfl) (by decide) (by decide)) hm.1 rfl (by decide) (by omega) (by omega) (Nat.le_of_ble_eq_true rfl) (fun v_10 u_10 p_10 => ?_)
  obtain ⟨e_10, rfl⟩ := p_10
  rw [e_10]
  clear e_10
  dsimp only [rs]
  refine j_if_ne 22 dX12_enter_13 (by decide) (fun c_13 => ?_) (fun c_13 => ?_)
  · have q := b2_n.mp c_13
    obtain ⟨i0, hi0, hx, -⟩ := nI_ex (n := 8) (by omega) q.2.1
    obtain ⟨j0, hj0, hy, -⟩ := nI_ex (n := 6) (by omega) q.2.2.2
    subst hx
    subst hy
    have q0 := q
    simp only [inSh, nI_toInt (n := i0) (by omega), nI_toInt (n := j0) (by omega)] at q
    obtain ⟨i, rfl⟩ : ∃ i, i0 = i + 1 := ⟨i0 - 1, by omega⟩
    obtain ⟨j, rfl⟩ : ∃ j, j0 = j + 1 := ⟨j0 - 1, by omega⟩
    refine j_aload_n dX12_enter_22 rfl ?_
    refine j_getI dX12_enter_23 fl_X12_258 rfl hm.1 ?_
    rw [fmI z0 40 (v := 0) rfl]
    refine j_istore_n dX12_enter_26 (by decide) ?_
    dsimp only [st1, st2, unL, List.set]
    refine j_aload_n dX12_enter_27 rfl ?_
    refine j_iconst (v := 0) dX12_enter_28 (by decide) ?_
    refine j_putI dX12_enter_29 fl_X12_258 rfl rfl rfl hm.1 ?_
    rw [pI_same (fmI z0 40 (v := 0) rfl)]
    refine j_aload_n dX12_enter_32 rfl ?_
    refine j_iconst (v := 0) dX12_enter_33 (by decide) ?_
    refine j_putI dX12_enter_34 fl_X12_277 rfl rfl rfl hm.1 ?_
    rw [pI_same (fmI z0 41 (v := 0) rfl)]
    refine j_aload_n dX12_enter_37 rfl ?_
    refine j_iconst (v := -1) dX12_enter_38 (by decide) ?_
    refine j_putI dX12_enter_39 fl_X12_280 rfl rfl rfl hm.1 ?_
    have zq : ∀ k, k ≠ 42 → hI (pI h (g 0) 42 (-1)) (g 0) k = fr_0 k := fun k hk => by rw [hI_pI, if_neg (fun w => hk w.2), z0]
    skip
    refine j_aload_n dX12_enter_42 rfl ?_
    refine j_iconst (v := 0) dX12_enter_43 (by decide) ?_
    refine j_putI dX12_enter_44 fl_X12_290 rfl rfl rfl hm.1 ?_
    rw [pI_same (show hI (pI h (g 0) 42 (-1)) (g 0) 43 = 0 from zq 43 (by decide))]
    refine j_aload_n dX12_enter_47 rfl ?_
    refine j_iload_n dX12_enter_48 rfl ?_
    refine j_putI dX12_enter_49 fl_X12_261 rfl rfl rfl hm.1 ?_
    rw [pI_same (show hI (pI h (g 0) 42 (-1)) (g 0) 44 = 0 from zq 44 (by decide))]
    refine j_aload_n dX12_enter_52 rfl ?_
    refine j_iload_n dX12_enter_53 rfl ?_
    refine j_putI dX12_enter_54 fl_X12_324 rfl rfl rfl hm.1 ?_
    rw [pI_same (show hI (pI h (g 0) 42 (-1)) (g 0) 45 = 0 from zq 45 (by decide))]
    refine j_aload_n dX12_enter_57 rfl ?_
    refine j_getI dX12_enter_58 fl_X12_290 rfl hm.1 ?_
    rw [show hI (pI h (g 0) 42 (-1)) (g 0) 43 = 0 from zq 43 (by decide)]
    refine j_aload_n dX12_enter_61 rfl ?_
    refine j_getI dX12_enter_62 fl_X12_261 rfl hm.1 ?_
    rw [show hI (pI h (g 0) 42 (-1)) (g 0) 44 = 0 from zq 44 (by decide)]
    refine j_icmp_ge 95 dX12_enter_65 (by decide) (fun c_65 => ?_) (fun c_65 => ?_)
    · refine j_aload_n dX12_enter_95 rfl ?_
      refine j_getI dX12_enter_96 fl_X12_261 rfl hm.1 ?_
      rw [show hI (pI h (g 0) 42 (-1)) (g 0) 44 = 0 from zq 44 (by decide)]
      refine j_aload_n dX12_enter_99 rfl ?_
      refine j_getI dX12_enter_100 fl_X12_290 rfl hm.1 ?_
      rw [show hI (pI h (g 0) 42 (-1)) (g 0) 43 = 0 from zq 43 (by decide)]
      refine j_icmp_le 135 dX12_enter_103 (by decide) (fun c_103 => ?_) (fun c_103 => ?_)
      · refine j_aload_n dX12_enter_135 rfl ?_
        refine j_getI dX12_enter_136 fl_X12_290 rfl hm.1 ?_
        rw [show hI (pI h (g 0) 42 (-1)) (g 0) 43 = 0 from zq 43 (by decide)]
        refine j_aload_n dX12_enter_139 rfl ?_
        refine j_getI dX12_enter_140 fl_X12_261 rfl hm.1 ?_
        rw [show hI (pI h (g 0) 42 (-1)) (g 0) 44 = 0 from zq 44 (by decide)]
        refine j_icmp_ge 164 dX12_enter_143 (by decide) (fun c_143 => ?_) (fun c_143 => ?_)
        · refine j_iconst (v := 0) dX12_enter_164 (by decide) ?_
          refine j_istore dX12_enter_165 (by decide) ?_
          dsimp only [st1, st2, unL, List.set]
          refine j_iconst (v := 0) dX12_enter_167 (by decide) ?_
          refine j_istore dX12_enter_168 (by decide) ?_
          dsimp only [st1, st2, unL, List.set]
          refine j_aload_n dX12_enter_170 rfl ?_
          refine j_iconst (v := 0) dX12_enter_171 (by decide) ?_
          refine j_putI dX12_enter_172 fl_X12_327 rfl rfl rfl hm.1 ?_
          rw [pI_same (show hI (pI h (g 0) 42 (-1)) (g 0) 56 = 0 from zq 56 (by decide))]
          refine j_iload dX12_enter_175 rfl ?_
          refine j_if_eq 187 dX12_enter_177 (by decide) (fun c_177 => ?_) (fun c_177 => ?_)
          · refine j_aload_n dX12_enter_187 rfl ?_
            refine j_callV0 dX12_enter_188 vl_X12_333 (e_plain0 (h := pI h (g 0) 42 (-1)) hm (show hI (pI h (g 0) 42 (-1)) (g 0) 43 = 0 from zq 43 (by decide)) (show hI (pI h (g 0) 42 (-1)) (g 0) 44 = 0 from zq 44 (by decide)) (show hI (pI h (g 0) 42 (-1)) (g 0) 41 = 0 from zq 41 (by decide))) hm.1 rfl (by decide) (by omega) (by omega) (Nat.le_of_ble_eq_true rfl) (fun v_188 u_188 p_188 => ?_)
            obtain ⟨e_188, rfl⟩ := p_188
            rw [e_188]
            clear e_188
            dsimp only [rs]
            skip
            refine j_istore dX12_enter_191 (by decide) ?_
            dsimp only [st1, st2, unL, List.set]
            refine j_aload_n dX12_enter_193 rfl ?_
            refine j_getI dX12_enter_194 fl_X12_277 rfl hm.1 ?_
            rw [show hI (pI h (g 0) 42 (-1)) (g 0) 41 = 0 from zq 41 (by decide)]
            refine j_if_le 206 dX12_enter_197 (by decide) (fun c_197 => ?_) (fun c_197 => ?_)
            · refine j_aload_n dX12_enter_206 rfl ?_
              refine j_getI dX12_enter_207 fl_X12_336 rfl hm.1 ?_
              rw [show hI (pI h (g 0) 42 (-1)) (g 0) 25 = 0 from zq 25 (by decide)]
              refine j_aload_n dX12_enter_210 rfl ?_
              refine j_getI dX12_enter_211 fl_X12_327 rfl hm.1 ?_
              rw [show hI (pI h (g 0) 42 (-1)) (g 0) 56 = 0 from zq 56 (by decide)]
              refine j_iadd dX12_enter_214 ?_
              refine j_ldcw dX12_enter_215 kl_X12_339 ?_
              refine j_icmp_le 227 dX12_enter_218 (by decide) (fun c_218 => ?_) (fun c_218 => ?_)
              · refine j_iload dX12_enter_227 rfl ?_
                refine j_if_eq 266 dX12_enter_229 (by decide) (fun c_229 => ?_) (fun c_229 => ?_)
                · refine j_aload_n dX12_enter_266 rfl ?_
                  refine j_callV0 dX12_enter_267 vl_X12_340 (c_stepA (h := pI h (g 0) 42 (-1)) (a := 0) (b := 0) hm (show hI (pI h (g 0) 42 (-1)) (g 0) 15 = 0 from zq 15 (by decide)) (show hI (pI h (g 0) 42 (-1)) (g 0) 16 = 0 from zq 16 (by decide)) (by decide) (by decide)) hm.1 rfl (by decide) (by omega) (by omega) (Nat.le_of_ble_eq_true rfl) (fun v_267 u_267 p_267 => ?_)
                  obtain ⟨rfl, rfl⟩ := p_267
                  dsimp only [rs]
                  refine j_pop dX12_enter_270 rfl ?_
                  refine j_aload_n dX12_enter_271 rfl ?_
                  refine j_iload_n dX12_enter_272 rfl ?_
                  refine j_iload_n dX12_enter_273 rfl ?_
                  refine j_iload dX12_enter_274 rfl ?_
                  refine j_callV3 dX12_enter_276 vl_X12_343 (c_setCell i j (by omega) (by omega) 0 hm) hm.1 rfl (by decide) (by omega) (by omega) (Nat.le_of_ble_eq_true rfl) (fun v_276 u_276 p_276 => ?_)
                  obtain ⟨rfl, rfl⟩ := p_276
                  dsimp only [rs]
                  refine j_aload_n dX12_enter_279 rfl ?_
                  refine j_getI dX12_enter_280 fl_X12_327 rfl hm.1 ?_
                  rw [hI_pIn (mNe hm (i := 0) (j := 5) rfl rfl rfl), stA_f (h := pI h (g 0) 42 (-1)) (k := 56) hm (by decide) (by decide) (by decide), show hI (pI h (g 0) 42 (-1)) (g 0) 56 = 0 from zq 56 (by decide)]
                  exact j_ireturn dX12_enter_283 rfl rfl ⟨rfl, hm, by rw [hI_pIn (mNe hm (i := 0) (j := 5) rfl rfl rfl), stA_f (h := pI h (g 0) 42 (-1)) (k := 0) hm (by decide) (by decide) (by decide), if_pos q0]; exact zq 0 (by decide)⟩
                · exact absurd rfl c_229
              · exact absurd (by decide) c_218
            · exact absurd (by decide) c_197
          · exact absurd (by decide) c_177
        · exact absurd (by decide) c_143
      · exact absurd (by decide) c_103
    · exact absurd (by decide) c_65
  · refine j_aload_n dX12_enter_16 rfl ?_
    refine j_iconst (v := 1) dX12_enter_17 (by decide) ?_
    refine j_callV1 dX12_enter_18 vl_X12_237 (c_throwing 1 hm) hm.1 rfl (by decide) (by omega) (by omega) (Nat.le_of_ble_eq_true rfl) (fun v_18 u_18 p_18 => ?_)
    obtain ⟨e_, rfl⟩ := p_18
    rw [e_]
    clear e_
    dsimp only [rs]
    exact j_ireturn dX12_enter_21 rfl rfl ⟨rfl, hm, by rw [hI_pI, if_pos ⟨rfl, rfl⟩, if_neg (b2_0.mp (Classical.not_not.mp c_13))]⟩

theorem lnA {h : Hp} {g : Nat → Nat} {s k : Nat} (hf : FM h g) (hs : s = 0 ∨ s = 40) (hk : k < 8) : hI h (g 3) (32 * s + k) = nI k := by
  obtain ⟨-, -, -, -, z3, -⟩ := hf
  rw [z3]; simp only [fr_3]
  rcases hs with rfl | rfl
  · rw [if_pos (by omega)]; congr 1; omega
  · rw [if_neg (by omega), if_pos (by omega), Nat.add_sub_cancel_left]
theorem lnB {h : Hp} {g : Nat → Nat} {s k : Nat} (hf : FM h g) (hs : s = 0 ∨ s = 40) (hk : k < 6) : hI h (g 4) (10 * s + k) = nI k := by
  obtain ⟨-, -, -, -, -, z4, -⟩ := hf
  rw [z4]; simp only [fr_3]
  rcases hs with rfl | rfl
  · rw [if_pos (by omega)]; congr 1; omega
  · rw [if_neg (by omega), if_pos (by omega), Nat.add_sub_cancel_left]
theorem plA {h : Hp} {g : Nat → Nat} {s k : Nat} (hf : FM h g) (hs : s = 0 ∨ s = 40) (hk : k < 8) : plm (fun k => hI h (g 3) (32 * s + k)) (nI k) 8 = nI k :=
  plm_at (fun j hj => by rw [lnA hf hs (by omega), Ne, nI_eq (by omega) (by omega)]; omega) (lnA hf hs hk) hk
theorem plB {h : Hp} {g : Nat → Nat} {s k : Nat} (hf : FM h g) (hs : s = 0 ∨ s = 40) (hk : k < 6) : plm (fun k => hI h (g 4) (10 * s + k)) (nI k) 6 = nI k :=
  plm_at (fun j hj => by rw [lnB hf hs (by omega), Ne, nI_eq (by omega) (by omega)]; omega) (lnB hf hs hk) hk
set_option maxRecDepth 20000 in
theorem rwA {h : Hp} {g : Nat → Nat} {s : Nat} (hf : FM h g) (hs : s = 0 ∨ s = 40) : hI h (g 1) s = 8 := by
  obtain ⟨-, -, z1, -⟩ := hf
  rcases hs with rfl | rfl <;> simp [z1, fr_1]
set_option maxRecDepth 20000 in
theorem rwB {h : Hp} {g : Nat → Nat} {s : Nat} (hf : FM h g) (hs : s = 0 ∨ s = 40) : hI h (g 2) s = 6 := by
  obtain ⟨-, -, -, z2, -⟩ := hf
  rcases hs with rfl | rfl <;> simp [z2, fr_1]
set_option maxRecDepth 20000 in
theorem l_linesAlone0 {h : Hp} {g : Nat → Nat} {s t : Nat} {x : Int32} (hf : FM h g) (hs : s = 0 ∨ s = 40) (ht : t = 0 ∨ t = 40) : ∀ (n : Nat) (i : Nat), 8 - i < n → (i ≤ 8) → J mX12_linesAlone 3 0 0 (nx (fun v u => u = h ∧ v = none)) 3 [some (vr (some (g 0))), some (vi (nI s)), some (vi (nI t)), some (vi 0), some (vi x), some (vi (nI i))] [] h := by
  intro n
  induction n with
  | zero => intro i hlt; omega
  | succ n ih =>
    intro i hlt hinv
    have hm := hf.1
    refine j_iload dX12_linesAlone_3 rfl ?_
    refine j_aload_n dX12_linesAlone_5 rfl ?_
    refine j_iload_n dX12_linesAlone_6 rfl ?_
    refine j_iload_n dX12_linesAlone_7 rfl ?_
    refine j_callV2 dX12_linesAlone_8 vl_X12_209 (c_linesOf0 s (by omega) hm) hm.1 rfl (by decide) (by omega) (by omega) (Nat.le_of_ble_eq_true rfl) (fun v_8 u_8 p_8 => ?_)
    obtain ⟨e_8, rfl⟩ := p_8
    rw [e_8]
    clear e_8
    dsimp only [rs]
    rw [rwA hf hs]
    refine j_icmp_ge 67 dX12_linesAlone_11 (by decide) (fun c_11 => ?_) (fun c_11 => ?_)
    · exact j_return dX12_linesAlone_67 rfl (⟨rfl, rfl⟩)
    · have hlt2 : i < 8 := by rw [li_8, nI_leI (by omega) (by omega)] at c_11; omega
      refine j_aload_n dX12_linesAlone_14 rfl ?_
      refine j_iload_n dX12_linesAlone_15 rfl ?_
      refine j_iload_n dX12_linesAlone_16 rfl ?_
      refine j_aload_n dX12_linesAlone_17 rfl ?_
      refine j_iload_n dX12_linesAlone_18 rfl ?_
      refine j_iload_n dX12_linesAlone_19 rfl ?_
      refine j_iload dX12_linesAlone_20 rfl ?_
      refine j_callV3 dX12_linesAlone_22 vl_X12_213 (c_lineAt0 s (by omega) i (by omega) hm) hm.1 rfl (by decide) (by omega) (by omega) (Nat.le_of_ble_eq_true rfl) (fun v_22 u_22 p_22 => ?_)
      obtain ⟨e_22, rfl⟩ := p_22
      rw [e_22]
      clear e_22
      dsimp only [rs]
      rw [lnA hf hs hlt2]
      refine j_callV3 dX12_linesAlone_25 vl_X12_217 (c_place12_0 (n0 := 8) _ hm (by omega) (by rw [rwA hf ht]; rfl) (by decide)) hm.1 rfl (by decide) (by omega) (by omega) (Nat.le_of_ble_eq_true rfl) (fun v_25 u_25 p_25 => ?_)
      obtain ⟨e_25, rfl⟩ := p_25
      rw [e_25]
      clear e_25
      dsimp only [rs]
      refine j_if_ge 61 dX12_linesAlone_28 (by decide) (fun c_28 => ?_) (fun c_28 => ?_)
      · refine j_iinc dX12_linesAlone_61 rfl ?_
        dsimp only [st1, st2, unL, List.set]
        refine j_goto 3 dX12_linesAlone_64 (by decide) ?_
        refine j_lle (lv' := [some (vr (some (g 0))), some (vi (nI s)), some (vi (nI t)), some (vi 0), some (vi x), some (vi (nI (i + 1)))]) (by simp [lle, nI_1]) ?_
        exact ih (i + 1) (by omega) (by omega)
      · exact absurd (by rw [plA hf ht hlt2]; exact nI_pos' (by omega)) c_28

set_option maxRecDepth 20000 in
theorem e_linesAlone0 {h : Hp} {g : Nat → Nat} {s t : Nat} (x : Int32) (hf : FM h g) (hs : s = 0 ∨ s = 40) (ht : t = 0 ∨ t = 40) : Con mX12_linesAlone 3 0 0 [vr (some (g 0)), vi (nI s), vi (nI t), vi 0, vi x] h (fun v u => u = h ∧ v = none) := by
  refine con_of rfl (Nat.le_of_ble_eq_true rfl) (by decide) ?_
  show J mX12_linesAlone 3 0 0 _ 0 [some (vr (some (g 0))), some (vi (nI s)), some (vi (nI t)), some (vi 0), some (vi x), none] [] h
  refine j_iconst (v := 0) dX12_linesAlone_0 (by decide) ?_
  refine j_istore dX12_linesAlone_1 (by decide) ?_
  dsimp only [st1, st2, unL, List.set]
  refine j_lle (lv' := [some (vr (some (g 0))), some (vi (nI s)), some (vi (nI t)), some (vi 0), some (vi x), some (vi (nI 0))]) (by simp [lle]; rfl) ?_
  exact l_linesAlone0 hf hs ht 9 0 (by omega) (by omega)

set_option maxRecDepth 20000 in
theorem l_sameOrder0 {h : Hp} {g : Nat → Nat} {s t : Nat} (hf : FM h g) (hs : s = 0 ∨ s = 40) (ht : t = 0 ∨ t = 40) : ∀ (n : Nat) (i : Nat) (l : Int32), 8 - i < n → (i ≤ 8 ∧ l < nI i) → J mX12_sameOrder 3 0 0 (nx (fun v u => u = h ∧ v = some (vi 1))) 6 [some (vr (some (g 0))), some (vi (nI s)), some (vi (nI t)), some (vi (nI t)), some (vi 0), some (vi l), some (vi (nI i)), none, none] [] h := by
  intro n
  induction n with
  | zero => intro i l hlt; omega
  | succ n ih =>
    intro i l hlt hinv
    have hm := hf.1
    refine j_iload dX12_sameOrder_6 rfl ?_
    refine j_aload_n dX12_sameOrder_8 rfl ?_
    refine j_iload_n dX12_sameOrder_9 rfl ?_
    refine j_iload dX12_sameOrder_10 rfl ?_
    refine j_callV2 dX12_sameOrder_12 vl_X12_209 (c_linesOf0 s (by omega) hm) hm.1 rfl (by decide) (by omega) (by omega) (Nat.le_of_ble_eq_true rfl) (fun v_12 u_12 p_12 => ?_)
    obtain ⟨e_12, rfl⟩ := p_12
    rw [e_12]
    clear e_12
    dsimp only [rs]
    rw [rwA hf hs]
    refine j_icmp_ge 90 dX12_sameOrder_15 (by decide) (fun c_15 => ?_) (fun c_15 => ?_)
    · refine j_iconst (v := 1) dX12_sameOrder_90 (by decide) ?_
      exact j_ireturn dX12_sameOrder_91 rfl rfl (⟨rfl, rfl⟩)
    · have hlt2 : i < 8 := by rw [li_8, nI_leI (by omega) (by omega)] at c_15; omega
      refine j_aload_n dX12_sameOrder_18 rfl ?_
      refine j_iload_n dX12_sameOrder_19 rfl ?_
      refine j_iload dX12_sameOrder_20 rfl ?_
      refine j_iload dX12_sameOrder_22 rfl ?_
      refine j_callV3 dX12_sameOrder_24 vl_X12_213 (c_lineAt0 s (by omega) i (by omega) hm) hm.1 rfl (by decide) (by omega) (by omega) (Nat.le_of_ble_eq_true rfl) (fun v_24 u_24 p_24 => ?_)
      obtain ⟨e_24, rfl⟩ := p_24
      rw [e_24]
      clear e_24
      dsimp only [rs]
      rw [lnA hf hs hlt2]
      refine j_istore dX12_sameOrder_27 (by decide) ?_
      dsimp only [st1, st2, unL, List.set]
      refine j_aload_n dX12_sameOrder_29 rfl ?_
      refine j_iload_n dX12_sameOrder_30 rfl ?_
      refine j_iload dX12_sameOrder_31 rfl ?_
      refine j_iload dX12_sameOrder_33 rfl ?_
      refine j_callV3 dX12_sameOrder_35 vl_X12_217 (c_place12_0 (n0 := 8) _ hm (by omega) (by rw [rwA hf ht]; rfl) (by decide)) hm.1 rfl (by decide) (by omega) (by omega) (Nat.le_of_ble_eq_true rfl) (fun v_35 u_35 p_35 => ?_)
      obtain ⟨e_35, rfl⟩ := p_35
      rw [e_35]
      clear e_35
      dsimp only [rs]
      refine j_if_ge 45 dX12_sameOrder_38 (by decide) (fun c_38 => ?_) (fun c_38 => ?_)
      · refine j_aload_n dX12_sameOrder_45 rfl ?_
        refine j_iload_n dX12_sameOrder_46 rfl ?_
        refine j_iload dX12_sameOrder_47 rfl ?_
        refine j_iload dX12_sameOrder_49 rfl ?_
        refine j_callV3 dX12_sameOrder_51 vl_X12_217 (c_place12_0 (n0 := 8) _ hm (by omega) (by rw [rwA hf ht]; rfl) (by decide)) hm.1 rfl (by decide) (by omega) (by omega) (Nat.le_of_ble_eq_true rfl) (fun v_51 u_51 p_51 => ?_)
        obtain ⟨e_51, rfl⟩ := p_51
        rw [e_51]
        clear e_51
        dsimp only [rs]
        rw [plA hf ht hlt2]
        refine j_istore dX12_sameOrder_54 (by decide) ?_
        dsimp only [st1, st2, unL, List.set]
        refine j_iload dX12_sameOrder_56 rfl ?_
        refine j_if_lt 70 dX12_sameOrder_58 (by decide) (fun c_58 => ?_) (fun c_58 => ?_)
        · exact absurd c_58 (nI_pos (by omega))
        · refine j_iload dX12_sameOrder_61 rfl ?_
          refine j_iload dX12_sameOrder_63 rfl ?_
          refine j_icmp_ge 70 dX12_sameOrder_65 (by decide) (fun c_65 => ?_) (fun c_65 => ?_)
          · refine j_iload dX12_sameOrder_70 rfl ?_
            refine j_if_lt 80 dX12_sameOrder_72 (by decide) (fun c_72 => ?_) (fun c_72 => ?_)
            · exact absurd c_72 (nI_pos (by omega))
            · refine j_iload dX12_sameOrder_75 rfl ?_
              refine j_goto 82 dX12_sameOrder_77 (by decide) ?_
              refine j_istore dX12_sameOrder_82 (by decide) ?_
              dsimp only [st1, st2, unL, List.set]
              refine j_iinc dX12_sameOrder_84 rfl ?_
              dsimp only [st1, st2, unL, List.set]
              refine j_goto 6 dX12_sameOrder_87 (by decide) ?_
              refine j_lle (lv' := [some (vr (some (g 0))), some (vi (nI s)), some (vi (nI t)), some (vi (nI t)), some (vi 0), some (vi (nI i)), some (vi (nI (i + 1))), none, none]) (by simp [lle, nI_1]) ?_
              exact ih (i + 1) (nI i) (by omega) ⟨by omega, nI_lt (by omega) (by omega)⟩
          · exact absurd (by have w := hinv.2; rw [lt_i] at w; rw [le_i]; omega) c_65
      · exact absurd (by rw [plA hf ht hlt2]; exact nI_pos' (by omega)) c_38

set_option maxRecDepth 20000 in
theorem e_sameOrder0 {h : Hp} {g : Nat → Nat} {s t : Nat} (hf : FM h g) (hs : s = 0 ∨ s = 40) (ht : t = 0 ∨ t = 40) : Con mX12_sameOrder 3 0 0 [vr (some (g 0)), vi (nI s), vi (nI t), vi (nI t), vi 0] h (fun v u => u = h ∧ v = some (vi 1)) := by
  refine con_of rfl (Nat.le_of_ble_eq_true rfl) (by decide) ?_
  show J mX12_sameOrder 3 0 0 _ 0 [some (vr (some (g 0))), some (vi (nI s)), some (vi (nI t)), some (vi (nI t)), some (vi 0), none, none, none, none] [] h
  refine j_iconst (v := -1) dX12_sameOrder_0 (by decide) ?_
  refine j_istore dX12_sameOrder_1 (by decide) ?_
  dsimp only [st1, st2, unL, List.set]
  refine j_iconst (v := 0) dX12_sameOrder_3 (by decide) ?_
  refine j_istore dX12_sameOrder_4 (by decide) ?_
  dsimp only [st1, st2, unL, List.set]
  refine j_lle (lv' := [some (vr (some (g 0))), some (vi (nI s)), some (vi (nI t)), some (vi (nI t)), some (vi 0), some (vi (-1)), some (vi (nI 0)), none, none]) (by simp [lle]; rfl) ?_
  exact l_sameOrder0 hf hs ht 9 0 (-1) (by omega) ⟨by omega, by decide⟩

set_option maxRecDepth 20000 in
theorem l_linesAlone1 {h : Hp} {g : Nat → Nat} {s t : Nat} {x : Int32} (hf : FM h g) (hs : s = 0 ∨ s = 40) (ht : t = 0 ∨ t = 40) : ∀ (n : Nat) (i : Nat), 6 - i < n → (i ≤ 6) → J mX12_linesAlone 3 0 0 (nx (fun v u => u = h ∧ v = none)) 3 [some (vr (some (g 0))), some (vi (nI s)), some (vi (nI t)), some (vi 1), some (vi x), some (vi (nI i))] [] h := by
  intro n
  induction n with
  | zero => intro i hlt; omega
  | succ n ih =>
    intro i hlt hinv
    have hm := hf.1
    refine j_iload dX12_linesAlone_3 rfl ?_
    refine j_aload_n dX12_linesAlone_5 rfl ?_
    refine j_iload_n dX12_linesAlone_6 rfl ?_
    refine j_iload_n dX12_linesAlone_7 rfl ?_
    refine j_callV2 dX12_linesAlone_8 vl_X12_209 (c_linesOf1 s (by omega) hm) hm.1 rfl (by decide) (by omega) (by omega) (Nat.le_of_ble_eq_true rfl) (fun v_8 u_8 p_8 => ?_)
    obtain ⟨e_8, rfl⟩ := p_8
    rw [e_8]
    clear e_8
    dsimp only [rs]
    rw [rwB hf hs]
    refine j_icmp_ge 67 dX12_linesAlone_11 (by decide) (fun c_11 => ?_) (fun c_11 => ?_)
    · exact j_return dX12_linesAlone_67 rfl (⟨rfl, rfl⟩)
    · have hlt2 : i < 6 := by rw [li_6, nI_leI (by omega) (by omega)] at c_11; omega
      refine j_aload_n dX12_linesAlone_14 rfl ?_
      refine j_iload_n dX12_linesAlone_15 rfl ?_
      refine j_iload_n dX12_linesAlone_16 rfl ?_
      refine j_aload_n dX12_linesAlone_17 rfl ?_
      refine j_iload_n dX12_linesAlone_18 rfl ?_
      refine j_iload_n dX12_linesAlone_19 rfl ?_
      refine j_iload dX12_linesAlone_20 rfl ?_
      refine j_callV3 dX12_linesAlone_22 vl_X12_213 (c_lineAt1 s (by omega) i (by omega) hm) hm.1 rfl (by decide) (by omega) (by omega) (Nat.le_of_ble_eq_true rfl) (fun v_22 u_22 p_22 => ?_)
      obtain ⟨e_22, rfl⟩ := p_22
      rw [e_22]
      clear e_22
      dsimp only [rs]
      rw [lnB hf hs hlt2]
      refine j_callV3 dX12_linesAlone_25 vl_X12_217 (c_place12_1 (n0 := 6) _ hm (by omega) (by rw [rwB hf ht]; rfl) (by decide)) hm.1 rfl (by decide) (by omega) (by omega) (Nat.le_of_ble_eq_true rfl) (fun v_25 u_25 p_25 => ?_)
      obtain ⟨e_25, rfl⟩ := p_25
      rw [e_25]
      clear e_25
      dsimp only [rs]
      refine j_if_ge 61 dX12_linesAlone_28 (by decide) (fun c_28 => ?_) (fun c_28 => ?_)
      · refine j_iinc dX12_linesAlone_61 rfl ?_
        dsimp only [st1, st2, unL, List.set]
        refine j_goto 3 dX12_linesAlone_64 (by decide) ?_
        refine j_lle (lv' := [some (vr (some (g 0))), some (vi (nI s)), some (vi (nI t)), some (vi 1), some (vi x), some (vi (nI (i + 1)))]) (by simp [lle, nI_1]) ?_
        exact ih (i + 1) (by omega) (by omega)
      · exact absurd (by rw [plB hf ht hlt2]; exact nI_pos' (by omega)) c_28

set_option maxRecDepth 20000 in
theorem e_linesAlone1 {h : Hp} {g : Nat → Nat} {s t : Nat} (x : Int32) (hf : FM h g) (hs : s = 0 ∨ s = 40) (ht : t = 0 ∨ t = 40) : Con mX12_linesAlone 3 0 0 [vr (some (g 0)), vi (nI s), vi (nI t), vi 1, vi x] h (fun v u => u = h ∧ v = none) := by
  refine con_of rfl (Nat.le_of_ble_eq_true rfl) (by decide) ?_
  show J mX12_linesAlone 3 0 0 _ 0 [some (vr (some (g 0))), some (vi (nI s)), some (vi (nI t)), some (vi 1), some (vi x), none] [] h
  refine j_iconst (v := 0) dX12_linesAlone_0 (by decide) ?_
  refine j_istore dX12_linesAlone_1 (by decide) ?_
  dsimp only [st1, st2, unL, List.set]
  refine j_lle (lv' := [some (vr (some (g 0))), some (vi (nI s)), some (vi (nI t)), some (vi 1), some (vi x), some (vi (nI 0))]) (by simp [lle]; rfl) ?_
  exact l_linesAlone1 hf hs ht 7 0 (by omega) (by omega)

set_option maxRecDepth 20000 in
theorem l_sameOrder1 {h : Hp} {g : Nat → Nat} {s t : Nat} (hf : FM h g) (hs : s = 0 ∨ s = 40) (ht : t = 0 ∨ t = 40) : ∀ (n : Nat) (i : Nat) (l : Int32), 6 - i < n → (i ≤ 6 ∧ l < nI i) → J mX12_sameOrder 3 0 0 (nx (fun v u => u = h ∧ v = some (vi 1))) 6 [some (vr (some (g 0))), some (vi (nI s)), some (vi (nI t)), some (vi (nI t)), some (vi 1), some (vi l), some (vi (nI i)), none, none] [] h := by
  intro n
  induction n with
  | zero => intro i l hlt; omega
  | succ n ih =>
    intro i l hlt hinv
    have hm := hf.1
    refine j_iload dX12_sameOrder_6 rfl ?_
    refine j_aload_n dX12_sameOrder_8 rfl ?_
    refine j_iload_n dX12_sameOrder_9 rfl ?_
    refine j_iload dX12_sameOrder_10 rfl ?_
    refine j_callV2 dX12_sameOrder_12 vl_X12_209 (c_linesOf1 s (by omega) hm) hm.1 rfl (by decide) (by omega) (by omega) (Nat.le_of_ble_eq_true rfl) (fun v_12 u_12 p_12 => ?_)
    obtain ⟨e_12, rfl⟩ := p_12
    rw [e_12]
    clear e_12
    dsimp only [rs]
    rw [rwB hf hs]
    refine j_icmp_ge 90 dX12_sameOrder_15 (by decide) (fun c_15 => ?_) (fun c_15 => ?_)
    · refine j_iconst (v := 1) dX12_sameOrder_90 (by decide) ?_
      exact j_ireturn dX12_sameOrder_91 rfl rfl (⟨rfl, rfl⟩)
    · have hlt2 : i < 6 := by rw [li_6, nI_leI (by omega) (by omega)] at c_15; omega
      refine j_aload_n dX12_sameOrder_18 rfl ?_
      refine j_iload_n dX12_sameOrder_19 rfl ?_
      refine j_iload dX12_sameOrder_20 rfl ?_
      refine j_iload dX12_sameOrder_22 rfl ?_
      refine j_callV3 dX12_sameOrder_24 vl_X12_213 (c_lineAt1 s (by omega) i (by omega) hm) hm.1 rfl (by decide) (by omega) (by omega) (Nat.le_of_ble_eq_true rfl) (fun v_24 u_24 p_24 => ?_)
      obtain ⟨e_24, rfl⟩ := p_24
      rw [e_24]
      clear e_24
      dsimp only [rs]
      rw [lnB hf hs hlt2]
      refine j_istore dX12_sameOrder_27 (by decide) ?_
      dsimp only [st1, st2, unL, List.set]
      refine j_aload_n dX12_sameOrder_29 rfl ?_
      refine j_iload_n dX12_sameOrder_30 rfl ?_
      refine j_iload dX12_sameOrder_31 rfl ?_
      refine j_iload dX12_sameOrder_33 rfl ?_
      refine j_callV3 dX12_sameOrder_35 vl_X12_217 (c_place12_1 (n0 := 6) _ hm (by omega) (by rw [rwB hf ht]; rfl) (by decide)) hm.1 rfl (by decide) (by omega) (by omega) (Nat.le_of_ble_eq_true rfl) (fun v_35 u_35 p_35 => ?_)
      obtain ⟨e_35, rfl⟩ := p_35
      rw [e_35]
      clear e_35
      dsimp only [rs]
      refine j_if_ge 45 dX12_sameOrder_38 (by decide) (fun c_38 => ?_) (fun c_38 => ?_)
      · refine j_aload_n dX12_sameOrder_45 rfl ?_
        refine j_iload_n dX12_sameOrder_46 rfl ?_
        refine j_iload dX12_sameOrder_47 rfl ?_
        refine j_iload dX12_sameOrder_49 rfl ?_
        refine j_callV3 dX12_sameOrder_51 vl_X12_217 (c_place12_1 (n0 := 6) _ hm (by omega) (by rw [rwB hf ht]; rfl) (by decide)) hm.1 rfl (by decide) (by omega) (by omega) (Nat.le_of_ble_eq_true rfl) (fun v_51 u_51 p_51 => ?_)
        obtain ⟨e_51, rfl⟩ := p_51
        rw [e_51]
        clear e_51
        dsimp only [rs]
        rw [plB hf ht hlt2]
        refine j_istore dX12_sameOrder_54 (by decide) ?_
        dsimp only [st1, st2, unL, List.set]
        refine j_iload dX12_sameOrder_56 rfl ?_
        refine j_if_lt 70 dX12_sameOrder_58 (by decide) (fun c_58 => ?_) (fun c_58 => ?_)
        · exact absurd c_58 (nI_pos (by omega))
        · refine j_iload dX12_sameOrder_61 rfl ?_
          refine j_iload dX12_sameOrder_63 rfl ?_
          refine j_icmp_ge 70 dX12_sameOrder_65 (by decide) (fun c_65 => ?_) (fun c_65 => ?_)
          · refine j_iload dX12_sameOrder_70 rfl ?_
            refine j_if_lt 80 dX12_sameOrder_72 (by decide) (fun c_72 => ?_) (fun c_72 => ?_)
            · exact absurd c_72 (nI_pos (by omega))
            · refine j_iload dX12_sameOrder_75 rfl ?_
              refine j_goto 82 dX12_sameOrder_77 (by decide) ?_
              refine j_istore dX12_sameOrder_82 (by decide) ?_
              dsimp only [st1, st2, unL, List.set]
              refine j_iinc dX12_sameOrder_84 rfl ?_
              dsimp only [st1, st2, unL, List.set]
              refine j_goto 6 dX12_sameOrder_87 (by decide) ?_
              refine j_lle (lv' := [some (vr (some (g 0))), some (vi (nI s)), some (vi (nI t)), some (vi (nI t)), some (vi 1), some (vi (nI i)), some (vi (nI (i + 1))), none, none]) (by simp [lle, nI_1]) ?_
              exact ih (i + 1) (nI i) (by omega) ⟨by omega, nI_lt (by omega) (by omega)⟩
          · exact absurd (by have w := hinv.2; rw [lt_i] at w; rw [le_i]; omega) c_65
      · exact absurd (by rw [plB hf ht hlt2]; exact nI_pos' (by omega)) c_38

set_option maxRecDepth 20000 in
theorem e_sameOrder1 {h : Hp} {g : Nat → Nat} {s t : Nat} (hf : FM h g) (hs : s = 0 ∨ s = 40) (ht : t = 0 ∨ t = 40) : Con mX12_sameOrder 3 0 0 [vr (some (g 0)), vi (nI s), vi (nI t), vi (nI t), vi 1] h (fun v u => u = h ∧ v = some (vi 1)) := by
  refine con_of rfl (Nat.le_of_ble_eq_true rfl) (by decide) ?_
  show J mX12_sameOrder 3 0 0 _ 0 [some (vr (some (g 0))), some (vi (nI s)), some (vi (nI t)), some (vi (nI t)), some (vi 1), none, none, none, none] [] h
  refine j_iconst (v := -1) dX12_sameOrder_0 (by decide) ?_
  refine j_istore dX12_sameOrder_1 (by decide) ?_
  dsimp only [st1, st2, unL, List.set]
  refine j_iconst (v := 0) dX12_sameOrder_3 (by decide) ?_
  refine j_istore dX12_sameOrder_4 (by decide) ?_
  dsimp only [st1, st2, unL, List.set]
  refine j_lle (lv' := [some (vr (some (g 0))), some (vi (nI s)), some (vi (nI t)), some (vi (nI t)), some (vi 1), some (vi (-1)), some (vi (nI 0)), none, none]) (by simp [lle]; rfl) ?_
  exact l_sameOrder1 hf hs ht 7 0 (-1) (by omega) ⟨by omega, by decide⟩

set_option maxRecDepth 20000 in
theorem l_diff {h : Hp} {g : Nat → Nat} {s t : Nat} {x y : Int32} (hf : FM h g) (hs : s = 0 ∨ s = 40) (ht : t = 0 ∨ t = 40) : ∀ (n : Nat) (i : Nat), 320 - i < n → (i ≤ 320) → J mX12_diff 5 0 0 (nx (an g 0 0)) 130 [some (vr (some (g 0))), some (vi x), some (vi y), some (vi (nI s)), some (vi (nI t)), some (vi (nI i)), none, none, none] [] h := by
  intro n
  induction n with
  | zero => intro i hlt; omega
  | succ n ih =>
    intro i hlt hinv
    obtain ⟨hm, z0, z1, z2, z3, z4, z5, z9, z10, z11, z64⟩ := id hf
    refine j_iload dX12_diff_130 rfl ?_
    refine j_sipush (v := 320) dX12_diff_132 (by decide) ?_
    refine j_icmp_ge 249 dX12_diff_135 (by decide) (fun c_135 => ?_) (fun c_135 => ?_)
    · refine j_aload_n dX12_diff_249 rfl ?_
      refine j_getI dX12_diff_250 fl_X12_939 rfl hm.1 ?_
      rw [fmI z0 104 (v := 0) rfl]
      exact j_ireturn dX12_diff_253 rfl rfl (⟨rfl, hm, fmI z0 0 rfl⟩)
    · have hlt2 : i < 320 := by rw [li_320, nI_leI (by omega) (by omega)] at c_135; omega
      refine j_iload dX12_diff_138 rfl ?_
      refine j_bipush (v := 10) dX12_diff_140 (by decide) ?_
      refine j_idiv dX12_diff_142 (by decide) ?_
      rw [li_10, pk_div (by omega) (by decide) (by decide)]
      refine j_istore dX12_diff_143 (by decide) ?_
      dsimp only [st1, st2, unL, List.set]
      refine j_iload dX12_diff_145 rfl ?_
      refine j_bipush (v := 10) dX12_diff_147 (by decide) ?_
      refine j_irem dX12_diff_149 (by decide) ?_
      rw [li_10, pk_rem (by omega) (by decide) (by decide)]
      refine j_istore dX12_diff_150 (by decide) ?_
      dsimp only [st1, st2, unL, List.set]
      refine j_iload dX12_diff_152 rfl ?_
      refine j_aload_n dX12_diff_154 rfl ?_
      refine j_getR dX12_diff_155 fl_X12_7 rfl hm.1 (mO hm rfl) ?_
      refine j_iload dX12_diff_158 rfl ?_
      refine j_iald t dX12_diff_160 (mK hm rfl) rfl (Nat.lt_of_lt_of_eq (by omega) (mN hm (k := 1) (n := 122) rfl rfl).symm) (Nat.lt_of_le_of_lt (Nat.le_of_eq (mN hm (k := 1) (n := 122) rfl rfl)) (by decide)) ?_
      rw [rwA hf ht]
      refine j_icmp_ge 243 dX12_diff_161 (by decide) (fun c_161 => ?_) (fun c_161 => ?_)
      · refine j_iinc dX12_diff_243 rfl ?_
        dsimp only [st1, st2, unL, List.set]
        refine j_goto 130 dX12_diff_246 (by decide) ?_
        refine j_lle (lv' := [some (vr (some (g 0))), some (vi x), some (vi y), some (vi (nI s)), some (vi (nI t)), some (vi (nI (i + 1))), none, none, none]) (by simp [lle, nI_1]) ?_
        exact ih (i + 1) (by omega) (by omega)
      · have hr8 : i / 10 < 8 := by rw [li_8, nI_leI (by omega) (by omega)] at c_161; omega
        refine j_iload dX12_diff_164 rfl ?_
        refine j_aload_n dX12_diff_166 rfl ?_
        refine j_getR dX12_diff_167 fl_X12_13 rfl hm.1 (mO hm rfl) ?_
        refine j_iload dX12_diff_170 rfl ?_
        refine j_iald t dX12_diff_172 (mK hm rfl) rfl (Nat.lt_of_lt_of_eq (by omega) (mN hm (k := 2) (n := 122) rfl rfl).symm) (Nat.lt_of_le_of_lt (Nat.le_of_eq (mN hm (k := 2) (n := 122) rfl rfl)) (by decide)) ?_
        rw [rwB hf ht]
        refine j_icmp_ge 243 dX12_diff_173 (by decide) (fun c_173 => ?_) (fun c_173 => ?_)
        · refine j_iinc dX12_diff_243 rfl ?_
          dsimp only [st1, st2, unL, List.set]
          refine j_goto 130 dX12_diff_246 (by decide) ?_
          refine j_lle (lv' := [some (vr (some (g 0))), some (vi x), some (vi y), some (vi (nI s)), some (vi (nI t)), some (vi (nI (i + 1))), none, none, none]) (by simp [lle, nI_1]) ?_
          exact ih (i + 1) (by omega) (by omega)
        · have hc6 : i % 10 < 6 := by rw [li_6, nI_leI (by omega) (by omega)] at c_173; omega
          refine j_aload_n dX12_diff_176 rfl ?_
          refine j_iload_n dX12_diff_177 rfl ?_
          refine j_aload_n dX12_diff_178 rfl ?_
          refine j_iload dX12_diff_179 rfl ?_
          refine j_iconst (v := 0) dX12_diff_181 (by decide) ?_
          refine j_iload dX12_diff_182 rfl ?_
          refine j_callV3 dX12_diff_184 vl_X12_213 (c_lineAt0 t (by omega) (i / 10) (by omega) hm) hm.1 rfl (by decide) (by omega) (by omega) (Nat.le_of_ble_eq_true rfl) (fun v_184 u_184 p_184 => ?_)
          obtain ⟨e_184, rfl⟩ := p_184
          rw [e_184]
          clear e_184
          dsimp only [rs]
          rw [lnA hf ht hr8]
          refine j_aload_n dX12_diff_187 rfl ?_
          refine j_iload dX12_diff_188 rfl ?_
          refine j_iconst (v := 1) dX12_diff_190 (by decide) ?_
          refine j_iload dX12_diff_191 rfl ?_
          refine j_callV3 dX12_diff_193 vl_X12_213 (c_lineAt1 t (by omega) (i % 10) (by omega) hm) hm.1 rfl (by decide) (by omega) (by omega) (Nat.le_of_ble_eq_true rfl) (fun v_193 u_193 p_193 => ?_)
          obtain ⟨e_193, rfl⟩ := p_193
          rw [e_193]
          clear e_193
          dsimp only [rs]
          rw [lnB hf ht hc6]
          refine j_callV3 dX12_diff_196 vl_X12_887 (c_contentAt (s := s) (nr := 8) (nc := 6) (i := i / 10) (j := i % 10) hm (by omega) (by rw [rwA hf hs]; rfl) (by rw [rwB hf hs]; rfl) (by decide) (by decide) (by omega) (by omega) (plA hf hs hr8) (plB hf hs hc6)) hm.1 rfl (by decide) (by omega) (by omega) (Nat.le_of_ble_eq_true rfl) (fun v_196 u_196 p_196 => ?_)
          obtain ⟨e_196, rfl⟩ := p_196
          rw [e_196]
          clear e_196
          dsimp only [rs]
          rw [congrFun z5]
          refine j_istore dX12_diff_199 (by decide) ?_
          dsimp only [st1, st2, unL, List.set]
          refine j_iload dX12_diff_201 rfl ?_
          refine j_if_lt 243 dX12_diff_203 (by decide) (fun c_203 => ?_) (fun c_203 => ?_)
          · exact absurd c_203 (by decide)
          · refine j_aload_n dX12_diff_206 rfl ?_
            refine j_iload dX12_diff_207 rfl ?_
            refine j_aload_n dX12_diff_209 rfl ?_
            refine j_getR dX12_diff_210 fl_X12_23 rfl hm.1 (mO hm rfl) ?_
            refine j_sipush (v := 320) dX12_diff_213 (by decide) ?_
            refine j_iload dX12_diff_216 rfl ?_
            refine j_imul dX12_diff_218 ?_
            refine j_iload dX12_diff_219 rfl ?_
            refine j_iadd dX12_diff_221 ?_
            refine j_iald (320 * t + i) dX12_diff_222 (mK hm rfl) (by rw [li_320, pk_mul, nI_add]) (Nat.lt_of_lt_of_eq (by omega) (mN hm (k := 5) (n := 39040) rfl rfl).symm) (Nat.lt_of_le_of_lt (Nat.le_of_eq (mN hm (k := 5) (n := 39040) rfl rfl)) (by decide)) ?_
            rw [congrFun z5]
            refine j_callV2 dX12_diff_223 vl_X12_865 (c_alikeE 0 hm) hm.1 rfl (by decide) (by omega) (by omega) (Nat.le_of_ble_eq_true rfl) (fun v_223 u_223 p_223 => ?_)
            obtain ⟨e_223, rfl⟩ := p_223
            rw [e_223]
            clear e_223
            dsimp only [rs]
            refine j_if_ne 243 dX12_diff_226 (by decide) (fun c_226 => ?_) (fun c_226 => ?_)
            · refine j_iinc dX12_diff_243 rfl ?_
              dsimp only [st1, st2, unL, List.set]
              refine j_goto 130 dX12_diff_246 (by decide) ?_
              refine j_lle (lv' := [some (vr (some (g 0))), some (vi x), some (vi y), some (vi (nI s)), some (vi (nI t)), some (vi (nI (i + 1))), none, none, none]) (by simp [lle, nI_1]) ?_
              exact ih (i + 1) (by omega) (by omega)
            · exact absurd (by decide) c_226

theorem shT {x : Int32} (q : -1 ≤ x ∧ x ≤ 0) : ∃ s : Nat, (s = 0 ∨ s = 40) ∧ (if x < 0 then (40 : Int32) else x) = nI s := by
  by_cases w : x < 0
  · exact ⟨40, Or.inr rfl, by rw [if_pos w]; rfl⟩
  · refine ⟨0, Or.inl rfl, ?_⟩
    rw [if_neg w, eq_i]; simp only [le_i, lt_i, Int32.reduceToInt] at *; show x.toInt = (0 : Int); omega
set_option maxRecDepth 20000 in
theorem e_diff {h : Hp} {g : Nat → Nat} (x y : Int32) (hf : FM h g) : Con mX12_diff 5 0 0 [vr (some (g 0)), vi x, vi y] h (an g 0 (if (-1 ≤ x ∧ x ≤ 0) ∧ (-1 ≤ y ∧ y ≤ 0) then 0 else 1)) := by
  obtain ⟨hm, z0, z1, z2, z3, z4, z5, z9, z10, z11, z64⟩ := id hf
  refine con_of rfl (Nat.le_of_ble_eq_true rfl) (by decide) ?_
  show J mX12_diff 5 0 0 _ 0 [some (vr (some (g 0))), some (vi x), some (vi y), none, none, none, none, none, none] [] h
  refine j_aload_n dX12_diff_0 rfl ?_
  refine j_iconst (v := 0) dX12_diff_1 (by decide) ?_
  refine j_putI dX12_diff_2 fl_X12_202 rfl rfl rfl hm.1 ?_
  rw [pI_same (fmI z0 0 (v := 0) rfl)]
  refine j_aload_n dX12_diff_5 rfl ?_
  refine j_iload_n dX12_diff_6 rfl ?_
  refine j_callV1 dX12_diff_7 vl_X12_734 (c_isSheet _ hm) hm.1 rfl (by decide) (by omega) (by omega) (Nat.le_of_ble_eq_true rfl) (fun v_7 u_7 p_7 => ?_)
  obtain ⟨e_7, rfl⟩ := p_7
  rw [e_7]
  clear e_7
  dsimp only [rs]
  rw [fmI z0 8 (v := 1) rfl, show (1 : Int32) - 1 = 0 from rfl]
  refine j_if_eq 21 dX12_diff_10 (by decide) (fun c_10 => ?_) (fun c_10 => ?_)
  · refine j_aload_n dX12_diff_21 rfl ?_
    refine j_iconst (v := 1) dX12_diff_22 (by decide) ?_
    refine j_callV1 dX12_diff_23 vl_X12_237 (c_throwing 1 hm) hm.1 rfl (by decide) (by omega) (by omega) (Nat.le_of_ble_eq_true rfl) (fun v_23 u_23 p_23 => ?_)
    obtain ⟨e_, rfl⟩ := p_23
    rw [e_]
    clear e_
    dsimp only [rs]
    have qq : ¬ ((-1 ≤ x ∧ x ≤ 0) ∧ (-1 ≤ y ∧ y ≤ 0)) := fun w => by first | exact b2_0.mp (Classical.not_not.mp c_18) w.2 | exact b2_0.mp c_10 w.1
    exact j_ireturn dX12_diff_26 rfl rfl ⟨rfl, hm, by rw [hI_pI, if_pos ⟨rfl, rfl⟩, if_neg qq]⟩
  · refine j_aload_n dX12_diff_13 rfl ?_
    refine j_iload_n dX12_diff_14 rfl ?_
    refine j_callV1 dX12_diff_15 vl_X12_734 (c_isSheet _ hm) hm.1 rfl (by decide) (by omega) (by omega) (Nat.le_of_ble_eq_true rfl) (fun v_15 u_15 p_15 => ?_)
    obtain ⟨e_15, rfl⟩ := p_15
    rw [e_15]
    clear e_15
    dsimp only [rs]
    rw [fmI z0 8 (v := 1) rfl, show (1 : Int32) - 1 = 0 from rfl]
    refine j_if_ne 27 dX12_diff_18 (by decide) (fun c_18 => ?_) (fun c_18 => ?_)
    · have q1 := b2_nn.mp c_10
      have q2 := b2_n.mp c_18
      rw [if_pos (show (-1 ≤ x ∧ x ≤ 0) ∧ (-1 ≤ y ∧ y ≤ 0) from ⟨q1, q2⟩)]
      obtain ⟨s, hs, es⟩ := shT q1
      obtain ⟨t, ht, et⟩ := shT q2
      refine j_iload_n dX12_diff_27 rfl ?_
      refine j_callS1 dX12_diff_28 sl_X12_737 (c_sheetAt _) rfl (by decide) (by omega) (by omega) (Nat.le_of_ble_eq_true rfl) (fun v_28 u_28 p_28 => ?_)
      obtain ⟨e_28, rfl⟩ := p_28
      rw [e_28]
      clear e_28
      dsimp only [rs]
      rw [es]
      refine j_istore_n dX12_diff_31 (by decide) ?_
      dsimp only [st1, st2, unL, List.set]
      refine j_iload_n dX12_diff_32 rfl ?_
      refine j_callS1 dX12_diff_33 sl_X12_737 (c_sheetAt _) rfl (by decide) (by omega) (by omega) (Nat.le_of_ble_eq_true rfl) (fun v_33 u_33 p_33 => ?_)
      obtain ⟨e_33, rfl⟩ := p_33
      rw [e_33]
      clear e_33
      dsimp only [rs]
      rw [et]
      refine j_istore dX12_diff_36 (by decide) ?_
      dsimp only [st1, st2, unL, List.set]
      refine j_aload_n dX12_diff_38 rfl ?_
      refine j_iconst (v := 0) dX12_diff_39 (by decide) ?_
      refine j_putI dX12_diff_40 fl_X12_939 rfl rfl rfl hm.1 ?_
      rw [pI_same (fmI z0 104 (v := 0) rfl)]
      refine j_iconst (v := 0) dX12_diff_43 (by decide) ?_
      refine j_istore dX12_diff_44 (by decide) ?_
      dsimp only [st1, st2, unL, List.set]
      refine j_iload dX12_diff_46 rfl ?_
      refine j_iconst (v := 2) dX12_diff_48 (by decide) ?_
      refine j_icmp_ge 88 dX12_diff_49 (by decide) (fun c_49 => ?_) (fun c_49 => ?_)
      · exact absurd c_49 (by decide)
      · refine j_aload_n dX12_diff_52 rfl ?_
        refine j_iload_n dX12_diff_53 rfl ?_
        refine j_iload dX12_diff_54 rfl ?_
        refine j_iload dX12_diff_56 rfl ?_
        refine j_iconst (v := 2) dX12_diff_58 (by decide) ?_
        refine j_iload dX12_diff_59 rfl ?_
        refine j_imul dX12_diff_61 ?_
        refine j_iconst (v := 1) dX12_diff_62 (by decide) ?_
        refine j_iadd dX12_diff_63 ?_
        refine j_callV4 dX12_diff_64 vl_X12_945 (e_linesAlone0 (s := s) (t := t) _ hf hs ht) hm.1 rfl (by decide) (by omega) (by omega) (Nat.le_of_ble_eq_true rfl) (fun v_64 u_64 p_64 => ?_)
        obtain ⟨rfl, rfl⟩ := p_64
        dsimp only [rs]
        refine j_aload_n dX12_diff_67 rfl ?_
        refine j_iload dX12_diff_68 rfl ?_
        refine j_iload_n dX12_diff_70 rfl ?_
        refine j_iload dX12_diff_71 rfl ?_
        refine j_iconst (v := 2) dX12_diff_73 (by decide) ?_
        refine j_iload dX12_diff_74 rfl ?_
        refine j_imul dX12_diff_76 ?_
        refine j_iconst (v := 2) dX12_diff_77 (by decide) ?_
        refine j_iadd dX12_diff_78 ?_
        refine j_callV4 dX12_diff_79 vl_X12_945 (e_linesAlone0 (s := t) (t := s) _ hf ht hs) hm.1 rfl (by decide) (by omega) (by omega) (Nat.le_of_ble_eq_true rfl) (fun v_79 u_79 p_79 => ?_)
        obtain ⟨rfl, rfl⟩ := p_79
        dsimp only [rs]
        refine j_iinc dX12_diff_82 rfl ?_
        dsimp only [st1, st2, unL, List.set]
        refine j_goto 46 dX12_diff_85 (by decide) ?_
        refine j_iload dX12_diff_46 rfl ?_
        refine j_iconst (v := 2) dX12_diff_48 (by decide) ?_
        refine j_icmp_ge 88 dX12_diff_49 (by decide) (fun c_49 => ?_) (fun c_49 => ?_)
        · exact absurd c_49 (by decide)
        · refine j_aload_n dX12_diff_52 rfl ?_
          refine j_iload_n dX12_diff_53 rfl ?_
          refine j_iload dX12_diff_54 rfl ?_
          refine j_iload dX12_diff_56 rfl ?_
          refine j_iconst (v := 2) dX12_diff_58 (by decide) ?_
          refine j_iload dX12_diff_59 rfl ?_
          refine j_imul dX12_diff_61 ?_
          refine j_iconst (v := 1) dX12_diff_62 (by decide) ?_
          refine j_iadd dX12_diff_63 ?_
          refine j_callV4 dX12_diff_64 vl_X12_945 (e_linesAlone1 (s := s) (t := t) _ hf hs ht) hm.1 rfl (by decide) (by omega) (by omega) (Nat.le_of_ble_eq_true rfl) (fun v_64 u_64 p_64 => ?_)
          obtain ⟨rfl, rfl⟩ := p_64
          dsimp only [rs]
          refine j_aload_n dX12_diff_67 rfl ?_
          refine j_iload dX12_diff_68 rfl ?_
          refine j_iload_n dX12_diff_70 rfl ?_
          refine j_iload dX12_diff_71 rfl ?_
          refine j_iconst (v := 2) dX12_diff_73 (by decide) ?_
          refine j_iload dX12_diff_74 rfl ?_
          refine j_imul dX12_diff_76 ?_
          refine j_iconst (v := 2) dX12_diff_77 (by decide) ?_
          refine j_iadd dX12_diff_78 ?_
          refine j_callV4 dX12_diff_79 vl_X12_945 (e_linesAlone1 (s := t) (t := s) _ hf ht hs) hm.1 rfl (by decide) (by omega) (by omega) (Nat.le_of_ble_eq_true rfl) (fun v_79 u_79 p_79 => ?_)
          obtain ⟨rfl, rfl⟩ := p_79
          dsimp only [rs]
          refine j_iinc dX12_diff_82 rfl ?_
          dsimp only [st1, st2, unL, List.set]
          refine j_goto 46 dX12_diff_85 (by decide) ?_
          refine j_iload dX12_diff_46 rfl ?_
          refine j_iconst (v := 2) dX12_diff_48 (by decide) ?_
          refine j_icmp_ge 88 dX12_diff_49 (by decide) (fun c_49 => ?_) (fun c_49 => ?_)
          · refine j_iconst (v := 0) dX12_diff_88 (by decide) ?_
            refine j_istore dX12_diff_89 (by decide) ?_
            dsimp only [st1, st2, unL, List.set]
            refine j_iload dX12_diff_91 rfl ?_
            refine j_iconst (v := 2) dX12_diff_93 (by decide) ?_
            refine j_icmp_ge 127 dX12_diff_94 (by decide) (fun c_94 => ?_) (fun c_94 => ?_)
            · exact absurd c_94 (by decide)
            · refine j_aload_n dX12_diff_97 rfl ?_
              refine j_iload_n dX12_diff_98 rfl ?_
              refine j_iload dX12_diff_99 rfl ?_
              refine j_iload dX12_diff_101 rfl ?_
              refine j_iload dX12_diff_103 rfl ?_
              refine j_callV4 dX12_diff_105 vl_X12_897 (e_sameOrder0 hf hs ht) hm.1 rfl (by decide) (by omega) (by omega) (Nat.le_of_ble_eq_true rfl) (fun v_105 u_105 p_105 => ?_)
              obtain ⟨e_105, rfl⟩ := p_105
              rw [e_105]
              clear e_105
              dsimp only [rs]
              refine j_if_ne 121 dX12_diff_108 (by decide) (fun c_108 => ?_) (fun c_108 => ?_)
              · refine j_iinc dX12_diff_121 rfl ?_
                dsimp only [st1, st2, unL, List.set]
                refine j_goto 91 dX12_diff_124 (by decide) ?_
                refine j_iload dX12_diff_91 rfl ?_
                refine j_iconst (v := 2) dX12_diff_93 (by decide) ?_
                refine j_icmp_ge 127 dX12_diff_94 (by decide) (fun c_94 => ?_) (fun c_94 => ?_)
                · exact absurd c_94 (by decide)
                · refine j_aload_n dX12_diff_97 rfl ?_
                  refine j_iload_n dX12_diff_98 rfl ?_
                  refine j_iload dX12_diff_99 rfl ?_
                  refine j_iload dX12_diff_101 rfl ?_
                  refine j_iload dX12_diff_103 rfl ?_
                  refine j_callV4 dX12_diff_105 vl_X12_897 (e_sameOrder1 hf hs ht) hm.1 rfl (by decide) (by omega) (by omega) (Nat.le_of_ble_eq_true rfl) (fun v_105 u_105 p_105 => ?_)
                  obtain ⟨e_105, rfl⟩ := p_105
                  rw [e_105]
                  clear e_105
                  dsimp only [rs]
                  refine j_if_ne 121 dX12_diff_108 (by decide) (fun c_108 => ?_) (fun c_108 => ?_)
                  · refine j_iinc dX12_diff_121 rfl ?_
                    dsimp only [st1, st2, unL, List.set]
                    refine j_goto 91 dX12_diff_124 (by decide) ?_
                    refine j_iload dX12_diff_91 rfl ?_
                    refine j_iconst (v := 2) dX12_diff_93 (by decide) ?_
                    refine j_icmp_ge 127 dX12_diff_94 (by decide) (fun c_94 => ?_) (fun c_94 => ?_)
                    · refine j_iconst (v := 0) dX12_diff_127 (by decide) ?_
                      refine j_istore dX12_diff_128 (by decide) ?_
                      dsimp only [st1, st2, unL, List.set]
                      refine j_lle (lv' := [some (vr (some (g 0))), some (vi x), some (vi y), some (vi (nI s)), some (vi (nI t)), some (vi (nI 0)), none, none, none]) (by simp [lle]; rfl) ?_
                      exact l_diff hf hs ht 321 0 (by omega) (by omega)
                    · exact absurd (by decide) c_94
                  · exact absurd (by decide) c_108
              · exact absurd (by decide) c_108
          · exact absurd (by decide) c_49
    · refine j_aload_n dX12_diff_21 rfl ?_
      refine j_iconst (v := 1) dX12_diff_22 (by decide) ?_
      refine j_callV1 dX12_diff_23 vl_X12_237 (c_throwing 1 hm) hm.1 rfl (by decide) (by omega) (by omega) (Nat.le_of_ble_eq_true rfl) (fun v_23 u_23 p_23 => ?_)
      obtain ⟨e_, rfl⟩ := p_23
      rw [e_]
      clear e_
      dsimp only [rs]
      have qq : ¬ ((-1 ≤ x ∧ x ≤ 0) ∧ (-1 ≤ y ∧ y ≤ 0)) := fun w => by first | exact b2_0.mp (Classical.not_not.mp c_18) w.2 | exact b2_0.mp c_10 w.1
      exact j_ireturn dX12_diff_26 rfl rfl ⟨rfl, hm, by rw [hI_pI, if_pos ⟨rfl, rfl⟩, if_neg qq]⟩

set_option maxRecDepth 20000 in
theorem l_copy2 {h : Hp} {g : Nat → Nat} {a b c d e f H W : Nat} (hm : MW h g) (y0 : hI h (g 0) 0 = 0) (y5 : hI h (g 5) = fun _ => 0) (ha : a + H ≤ 8) (hb : b + W ≤ 6) (he : e + H ≤ 8) (hf6 : f + W ≤ 6) (hW : 0 < W) (hH : 0 < H) : ∀ (n : Nat) (i : Nat), H * W - i < n → (i ≤ H * W) → J mX12_copy 5 0 0 (nx (an g (nI H * nI W) 0)) 203 [some (vr (some (g 0))), some (vi (nI (a + 1))), some (vi (nI (b + 1))), some (vi (nI (c + 1))), some (vi (nI (d + 1))), some (vi (nI (e + 1))), some (vi (nI (f + 1))), some (vi (nI H)), some (vi (nI W)), some (vi 0), some (vi 41), some (vi (nI i)), none] [] h := by
  intro n
  induction n with
  | zero => intro i hlt; omega
  | succ n ih =>
    intro i hlt hinv
    refine j_iload dX12_copy_203 rfl ?_
    refine j_iload dX12_copy_205 rfl ?_
    refine j_iload dX12_copy_207 rfl ?_
    refine j_imul dX12_copy_209 ?_
    refine j_icmp_ge 287 dX12_copy_210 (by decide) (fun c_210 => ?_) (fun c_210 => ?_)
    · refine j_iload dX12_copy_287 rfl ?_
      refine j_iload dX12_copy_289 rfl ?_
      refine j_imul dX12_copy_291 ?_
      exact j_ireturn dX12_copy_292 rfl rfl (⟨rfl, hm, y0⟩)
    · have hlt2 : i < H * W := by rw [pk_mul, nI_leI (by have := Nat.mul_le_mul (show H ≤ 8 by omega) (show W ≤ 6 by omega); omega) (by have := Nat.mul_le_mul (show H ≤ 8 by omega) (show W ≤ 6 by omega); omega)] at c_210; omega
      have hHW := Nat.mul_le_mul (show H ≤ 8 by omega) (show W ≤ 6 by omega)
      have hdv : i / W < H := Nat.div_lt_of_lt_mul (by rw [Nat.mul_comm]; exact hlt2)
      have hmd : i % W < W := Nat.mod_lt _ hW
      refine j_aload_n dX12_copy_213 rfl ?_
      refine j_iload dX12_copy_214 rfl ?_
      refine j_iload_n dX12_copy_216 rfl ?_
      refine j_iload dX12_copy_217 rfl ?_
      refine j_iload dX12_copy_219 rfl ?_
      refine j_idiv dX12_copy_221 (by rw [li_0, nI_eq (by omega) (by omega)]; omega) ?_
      rw [pk_div (by omega) hW (by omega)]
      refine j_iadd dX12_copy_222 ?_
      rw [nI_add, show a + 1 + i / W = a + i / W + 1 by omega]
      refine j_iload_n dX12_copy_223 rfl ?_
      refine j_iload dX12_copy_224 rfl ?_
      refine j_iload dX12_copy_226 rfl ?_
      refine j_irem dX12_copy_228 (by rw [li_0, nI_eq (by omega) (by omega)]; omega) ?_
      rw [pk_rem (by omega) hW (by omega)]
      refine j_iadd dX12_copy_229 ?_
      rw [nI_add, show b + 1 + i % W = b + i % W + 1 by omega]
      refine j_callV3 dX12_copy_230 vl_X12_812 (c_cellAt 41 (by decide) (a + i / W) (b + i % W) (by omega) (by omega) hm) hm.1 rfl (by decide) (by omega) (by omega) (Nat.le_of_ble_eq_true rfl) (fun v_230 u_230 p_230 => ?_)
      obtain ⟨e_230, rfl⟩ := p_230
      rw [e_230]
      clear e_230
      dsimp only [rs]
      rw [congrFun y5]
      refine j_istore dX12_copy_233 (by decide) ?_
      dsimp only [st1, st2, unL, List.set]
      refine j_iload dX12_copy_235 rfl ?_
      refine j_callS1 dX12_copy_237 sl_X12_244 (c_isFormula12 _) rfl (by decide) (by omega) (by omega) (Nat.le_of_ble_eq_true rfl) (fun v_237 u_237 p_237 => ?_)
      obtain ⟨e_237, rfl⟩ := p_237
      rw [e_237]
      clear e_237
      dsimp only [rs]
      refine j_if_eq 259 dX12_copy_240 (by decide) (fun c_240 => ?_) (fun c_240 => ?_)
      · refine j_aload_n dX12_copy_259 rfl ?_
        refine j_iload dX12_copy_260 rfl ?_
        refine j_iload dX12_copy_262 rfl ?_
        refine j_iload dX12_copy_264 rfl ?_
        refine j_idiv dX12_copy_266 (by rw [li_0, nI_eq (by omega) (by omega)]; omega) ?_
        rw [pk_div (by omega) hW (by omega)]
        refine j_iadd dX12_copy_267 ?_
        rw [nI_add, show e + 1 + i / W = e + i / W + 1 by omega]
        refine j_iload dX12_copy_268 rfl ?_
        refine j_iload dX12_copy_270 rfl ?_
        refine j_iload dX12_copy_272 rfl ?_
        refine j_irem dX12_copy_274 (by rw [li_0, nI_eq (by omega) (by omega)]; omega) ?_
        rw [pk_rem (by omega) hW (by omega)]
        refine j_iadd dX12_copy_275 ?_
        rw [nI_add, show f + 1 + i % W = f + i % W + 1 by omega]
        refine j_iload dX12_copy_276 rfl ?_
        refine j_callV3 dX12_copy_278 vl_X12_343 (c_setCell (e + i / W) (f + i % W) (by omega) (by omega) 0 hm) hm.1 rfl (by decide) (by omega) (by omega) (Nat.le_of_ble_eq_true rfl) (fun v_278 u_278 p_278 => ?_)
        obtain ⟨rfl, rfl⟩ := p_278
        dsimp only [rs]
        refine j_iinc dX12_copy_281 rfl ?_
        dsimp only [st1, st2, unL, List.set]
        refine j_goto 203 dX12_copy_284 (by decide) ?_
        rw [pI_same (show hI h (g 5) (12800 + 10 * (e + i / W) + (f + i % W)) = 0 by rw [congrFun y5])]
        refine j_lle (lv' := [some (vr (some (g 0))), some (vi (nI (a + 1))), some (vi (nI (b + 1))), some (vi (nI (c + 1))), some (vi (nI (d + 1))), some (vi (nI (e + 1))), some (vi (nI (f + 1))), some (vi (nI H)), some (vi (nI W)), some (vi 0), some (vi 41), some (vi (nI (i + 1))), none]) (by simp [lle, nI_1]) ?_
        exact ih (i + 1) (by omega) (by omega)
      · exact absurd (b2f (by decide)) c_240

set_option maxRecDepth 20000 in
theorem l_copy1 {h : Hp} {g : Nat → Nat} {a b c d e f H W : Nat} (hf : FM h g) (ha : a + H ≤ 8) (hb : b + W ≤ 6) (he : e + H ≤ 8) (hf6 : f + W ≤ 6) (hW : 0 < W) (hH : 0 < H) : ∀ (n : Nat) (i : Nat), H * W - i < n → (i ≤ H * W) → J mX12_copy 5 0 0 (nx (an g (nI H * nI W) 0)) 111 [some (vr (some (g 0))), some (vi (nI (a + 1))), some (vi (nI (b + 1))), some (vi (nI (c + 1))), some (vi (nI (d + 1))), some (vi (nI (e + 1))), some (vi (nI (f + 1))), some (vi (nI H)), some (vi (nI W)), some (vi 0), some (vi (nI i)), none, none] [] h := by
  intro n
  induction n with
  | zero => intro i hlt; omega
  | succ n ih =>
    intro i hlt hinv
    obtain ⟨hm, z0, z1, z2, z3, z4, z5, z9, z10, z11, z64⟩ := id hf
    refine j_iload dX12_copy_111 rfl ?_
    refine j_iload dX12_copy_113 rfl ?_
    refine j_iload dX12_copy_115 rfl ?_
    refine j_imul dX12_copy_117 ?_
    refine j_icmp_ge 175 dX12_copy_118 (by decide) (fun c_118 => ?_) (fun c_118 => ?_)
    · refine j_aload_n dX12_copy_175 rfl ?_
      refine j_getI dX12_copy_176 fl_X12_336 rfl hm.1 ?_
      rw [fmI z0 25 (v := 0) rfl]
      refine j_iload dX12_copy_179 rfl ?_
      refine j_iadd dX12_copy_181 ?_
      refine j_ldcw dX12_copy_182 kl_X12_339 ?_
      refine j_icmp_le 194 dX12_copy_185 (by decide) (fun c_185 => ?_) (fun c_185 => ?_)
      · refine j_aload_n dX12_copy_194 rfl ?_
        refine j_callV0 dX12_copy_195 vl_X12_340 (c_stepA (a := 0) (b := 0) hm (fmI z0 15 rfl) (fmI z0 16 rfl) (by decide) (by decide)) hm.1 rfl (by decide) (by omega) (by omega) (Nat.le_of_ble_eq_true rfl) (fun v_195 u_195 p_195 => ?_)
        obtain ⟨rfl, rfl⟩ := p_195
        dsimp only [rs]
        refine j_istore dX12_copy_198 (by decide) ?_
        dsimp only [st1, st2, unL, List.set]
        refine j_iconst (v := 0) dX12_copy_200 (by decide) ?_
        refine j_istore dX12_copy_201 (by decide) ?_
        dsimp only [st1, st2, unL, List.set]
        refine j_lle (lv' := [some (vr (some (g 0))), some (vi (nI (a + 1))), some (vi (nI (b + 1))), some (vi (nI (c + 1))), some (vi (nI (d + 1))), some (vi (nI (e + 1))), some (vi (nI (f + 1))), some (vi (nI H)), some (vi (nI W)), some (vi 0), some (vi 41), some (vi (nI 0)), none]) (by simp [lle]; exact ⟨rfl, rfl⟩) ?_
        exact l_copy2 (h := stA h g 0 0) hm (by rw [stA_f hm (by decide) (by decide) (by decide)]; exact fmI z0 0 rfl) (stA_5 hm z5) ha hb he hf6 hW hH (H * W + 1) 0 (by omega) (by omega)
      · exact absurd (by decide) c_185
    · have hlt2 : i < H * W := by rw [pk_mul, nI_leI (by have := Nat.mul_le_mul (show H ≤ 8 by omega) (show W ≤ 6 by omega); omega) (by have := Nat.mul_le_mul (show H ≤ 8 by omega) (show W ≤ 6 by omega); omega)] at c_118; omega
      have hHW := Nat.mul_le_mul (show H ≤ 8 by omega) (show W ≤ 6 by omega)
      have hdv : i / W < H := Nat.div_lt_of_lt_mul (by rw [Nat.mul_comm]; exact hlt2)
      have hmd : i % W < W := Nat.mod_lt _ hW
      refine j_aload_n dX12_copy_121 rfl ?_
      refine j_bipush (v := 40) dX12_copy_122 (by decide) ?_
      refine j_iload_n dX12_copy_124 rfl ?_
      refine j_iload dX12_copy_125 rfl ?_
      refine j_iload dX12_copy_127 rfl ?_
      refine j_idiv dX12_copy_129 (by rw [li_0, nI_eq (by omega) (by omega)]; omega) ?_
      rw [pk_div (by omega) hW (by omega)]
      refine j_iadd dX12_copy_130 ?_
      rw [nI_add, show a + 1 + i / W = a + i / W + 1 by omega]
      refine j_iload_n dX12_copy_131 rfl ?_
      refine j_iload dX12_copy_132 rfl ?_
      refine j_iload dX12_copy_134 rfl ?_
      refine j_irem dX12_copy_136 (by rw [li_0, nI_eq (by omega) (by omega)]; omega) ?_
      rw [pk_rem (by omega) hW (by omega)]
      refine j_iadd dX12_copy_137 ?_
      rw [nI_add, show b + 1 + i % W = b + i % W + 1 by omega]
      refine j_callV3 dX12_copy_138 vl_X12_812 (c_cellAt 40 (by decide) (a + i / W) (b + i % W) (by omega) (by omega) hm) hm.1 rfl (by decide) (by omega) (by omega) (Nat.le_of_ble_eq_true rfl) (fun v_138 u_138 p_138 => ?_)
      obtain ⟨e_138, rfl⟩ := p_138
      rw [e_138]
      clear e_138
      dsimp only [rs]
      rw [congrFun z5]
      refine j_istore dX12_copy_141 (by decide) ?_
      dsimp only [st1, st2, unL, List.set]
      refine j_iload dX12_copy_143 rfl ?_
      refine j_iload dX12_copy_145 rfl ?_
      refine j_callS1 dX12_copy_147 sl_X12_244 (c_isFormula12 _) rfl (by decide) (by omega) (by omega) (Nat.le_of_ble_eq_true rfl) (fun v_147 u_147 p_147 => ?_)
      obtain ⟨e_147, rfl⟩ := p_147
      rw [e_147]
      clear e_147
      dsimp only [rs]
      refine j_if_eq 165 dX12_copy_150 (by decide) (fun c_150 => ?_) (fun c_150 => ?_)
      · refine j_iconst (v := 0) dX12_copy_165 (by decide) ?_
        refine j_iadd dX12_copy_166 ?_
        refine j_istore dX12_copy_167 (by decide) ?_
        dsimp only [st1, st2, unL, List.set]
        refine j_iinc dX12_copy_169 rfl ?_
        dsimp only [st1, st2, unL, List.set]
        refine j_goto 111 dX12_copy_172 (by decide) ?_
        refine j_lle (lv' := [some (vr (some (g 0))), some (vi (nI (a + 1))), some (vi (nI (b + 1))), some (vi (nI (c + 1))), some (vi (nI (d + 1))), some (vi (nI (e + 1))), some (vi (nI (f + 1))), some (vi (nI H)), some (vi (nI W)), some (vi 0), some (vi (nI (i + 1))), none, none]) (by simp [lle, nI_1]) ?_
        exact ih (i + 1) (by omega) (by omega)
      · exact absurd (b2f (by decide)) c_150

def cpT (x y z w p q : Int32) : Int32 := if inSh 8 6 x y ∧ inSh 8 6 z w ∧ inSh 8 6 p q then (if z < x ∨ w < y then 2 else 0) else 1
def cpR (x y z w p q : Int32) : Int32 := if inSh 8 6 x y ∧ inSh 8 6 z w ∧ inSh 8 6 p q then (if z < x ∨ w < y then 0 else ((if z - x < 8 - p then z - x else 8 - p) + 1) * ((if w - y < 6 - q then w - y else 6 - q) + 1)) else 0
theorem lst_n {a b n : Nat} (ha : a < 100) (hb : b < 100) : (if nI a < nI b then nI a else nI b) + 1 = nI (min a b + 1) := by
  rw [← nI_1]; congr 1
  by_cases q : a < b
  · rw [if_pos (nI_lt q (by omega)), Nat.min_eq_left (by omega)]
  · rw [if_neg (nI_nlt (by omega) (by omega)), Nat.min_eq_right (by omega)]
set_option maxRecDepth 20000 in
theorem e_copy {h : Hp} {g : Nat → Nat} (x y z w p q : Int32) (hf : FM h g) : Con mX12_copy 5 0 0 [vr (some (g 0)), vi x, vi y, vi z, vi w, vi p, vi q] h (an g (cpR x y z w p q) (cpT x y z w p q)) := by
  obtain ⟨hm, z0, z1, z2, z3, z4, z5, z9, z10, z11, z64⟩ := id hf
  refine con_of rfl (Nat.le_of_ble_eq_true rfl) (by decide) ?_
  show J mX12_copy 5 0 0 _ 0 [some (vr (some (g 0))), some (vi x), some (vi y), some (vi z), some (vi w), some (vi p), some (vi q), none, none, none, none, none, none] [] h
  refine j_aload_n dX12_copy_0 rfl ?_
  refine j_iconst (v := 0) dX12_copy_1 (by decide) ?_
  refine j_putI dX12_copy_2 fl_X12_202 rfl rfl rfl hm.1 ?_
  rw [pI_same (fmI z0 0 (v := 0) rfl)]
  refine j_aload_n dX12_copy_5 rfl ?_
  refine j_bipush (v := 40) dX12_copy_6 (by decide) ?_
  refine j_iload_n dX12_copy_8 rfl ?_
  refine j_iload_n dX12_copy_9 rfl ?_
  refine j_callV3 dX12_copy_10 vl_X12_321 (c_isCell12 40 (by decide) (nr := 8) (nc := 6) _ _ hm (by rw [z1]; rfl) (by rw [z2]; rfl) (by decide) (by decide)) hm.1 rfl (by decide) (by omega) (by omega) (Nat.le_of_ble_eq_true rfl) (fun v_10 u_10 p_10 => ?_)
  obtain ⟨e_10, rfl⟩ := p_10
  rw [e_10]
  clear e_10
  dsimp only [rs]
  refine j_if_eq 41 dX12_copy_13 (by decide) (fun c_13 => ?_) (fun c_13 => ?_)
  · refine j_aload_n dX12_copy_41 rfl ?_
    refine j_iconst (v := 1) dX12_copy_42 (by decide) ?_
    refine j_callV1 dX12_copy_43 vl_X12_237 (c_throwing 1 hm) hm.1 rfl (by decide) (by omega) (by omega) (Nat.le_of_ble_eq_true rfl) (fun v_43 u_43 p_43 => ?_)
    obtain ⟨e_, rfl⟩ := p_43
    rw [e_]
    clear e_
    dsimp only [rs]
    have qq : ¬ (inSh 8 6 x y ∧ inSh 8 6 z w ∧ inSh 8 6 p q) := fun k => by first | exact b2_0.mp c_13 k.1 | exact b2_0.mp c_25 k.2.1 | exact b2_0.mp (Classical.not_not.mp c_38) k.2.2
    exact j_ireturn dX12_copy_46 rfl rfl ⟨by rw [cpR, if_neg qq], hm, by rw [hI_pI, if_pos ⟨rfl, rfl⟩, cpT, if_neg qq]⟩
  · refine j_aload_n dX12_copy_16 rfl ?_
    refine j_bipush (v := 40) dX12_copy_17 (by decide) ?_
    refine j_iload_n dX12_copy_19 rfl ?_
    refine j_iload dX12_copy_20 rfl ?_
    refine j_callV3 dX12_copy_22 vl_X12_321 (c_isCell12 40 (by decide) (nr := 8) (nc := 6) _ _ hm (by rw [z1]; rfl) (by rw [z2]; rfl) (by decide) (by decide)) hm.1 rfl (by decide) (by omega) (by omega) (Nat.le_of_ble_eq_true rfl) (fun v_22 u_22 p_22 => ?_)
    obtain ⟨e_22, rfl⟩ := p_22
    rw [e_22]
    clear e_22
    dsimp only [rs]
    refine j_if_eq 41 dX12_copy_25 (by decide) (fun c_25 => ?_) (fun c_25 => ?_)
    · refine j_aload_n dX12_copy_41 rfl ?_
      refine j_iconst (v := 1) dX12_copy_42 (by decide) ?_
      refine j_callV1 dX12_copy_43 vl_X12_237 (c_throwing 1 hm) hm.1 rfl (by decide) (by omega) (by omega) (Nat.le_of_ble_eq_true rfl) (fun v_43 u_43 p_43 => ?_)
      obtain ⟨e_, rfl⟩ := p_43
      rw [e_]
      clear e_
      dsimp only [rs]
      have qq : ¬ (inSh 8 6 x y ∧ inSh 8 6 z w ∧ inSh 8 6 p q) := fun k => by first | exact b2_0.mp c_13 k.1 | exact b2_0.mp c_25 k.2.1 | exact b2_0.mp (Classical.not_not.mp c_38) k.2.2
      exact j_ireturn dX12_copy_46 rfl rfl ⟨by rw [cpR, if_neg qq], hm, by rw [hI_pI, if_pos ⟨rfl, rfl⟩, cpT, if_neg qq]⟩
    · refine j_aload_n dX12_copy_28 rfl ?_
      refine j_bipush (v := 40) dX12_copy_29 (by decide) ?_
      refine j_iload dX12_copy_31 rfl ?_
      refine j_iload dX12_copy_33 rfl ?_
      refine j_callV3 dX12_copy_35 vl_X12_321 (c_isCell12 40 (by decide) (nr := 8) (nc := 6) _ _ hm (by rw [z1]; rfl) (by rw [z2]; rfl) (by decide) (by decide)) hm.1 rfl (by decide) (by omega) (by omega) (Nat.le_of_ble_eq_true rfl) (fun v_35 u_35 p_35 => ?_)
      obtain ⟨e_35, rfl⟩ := p_35
      rw [e_35]
      clear e_35
      dsimp only [rs]
      refine j_if_ne 47 dX12_copy_38 (by decide) (fun c_38 => ?_) (fun c_38 => ?_)
      · have qq : inSh 8 6 x y ∧ inSh 8 6 z w ∧ inSh 8 6 p q := ⟨b2_nn.mp c_13, b2_nn.mp c_25, b2_n.mp c_38⟩
        refine j_iload_n dX12_copy_47 rfl ?_
        refine j_iload_n dX12_copy_48 rfl ?_
        refine j_icmp_lt 58 dX12_copy_49 (by decide) (fun c_49 => ?_) (fun c_49 => ?_)
        · refine j_aload_n dX12_copy_58 rfl ?_
          refine j_iconst (v := 2) dX12_copy_59 (by decide) ?_
          refine j_callV1 dX12_copy_60 vl_X12_237 (c_throwing 2 hm) hm.1 rfl (by decide) (by omega) (by omega) (Nat.le_of_ble_eq_true rfl) (fun v_60 u_60 p_60 => ?_)
          obtain ⟨e_, rfl⟩ := p_60
          rw [e_]
          clear e_
          dsimp only [rs]
          have ql : z < x ∨ w < y := by simp only [le_i, lt_i] at *; omega
          exact j_ireturn dX12_copy_63 rfl rfl ⟨by rw [cpR, if_pos qq, if_pos ql], hm, by rw [hI_pI, if_pos ⟨rfl, rfl⟩, cpT, if_pos qq, if_pos ql]⟩
        · refine j_iload dX12_copy_52 rfl ?_
          refine j_iload_n dX12_copy_54 rfl ?_
          refine j_icmp_ge 64 dX12_copy_55 (by decide) (fun c_55 => ?_) (fun c_55 => ?_)
          · have ql : ¬ (z < x ∨ w < y) := by simp only [le_i, lt_i] at *; omega
            rw [cpT, cpR, if_pos qq, if_pos qq, if_neg ql, if_neg ql]
            obtain ⟨a0, ha0, hv, -⟩ := nI_ex (x := x) (n := 8) (by simp only [inSh] at qq; omega) (by simp only [inSh] at qq; omega)
            subst hv
            obtain ⟨a, rfl⟩ : ∃ a, a0 = a + 1 := ⟨a0 - 1, by simp only [inSh, nI_toInt (n := a0) (by omega)] at qq; omega⟩
            obtain ⟨b0, hb0, hv, -⟩ := nI_ex (x := y) (n := 6) (by simp only [inSh] at qq; omega) (by simp only [inSh] at qq; omega)
            subst hv
            obtain ⟨b, rfl⟩ : ∃ a, b0 = a + 1 := ⟨b0 - 1, by simp only [inSh, nI_toInt (n := b0) (by omega)] at qq; omega⟩
            obtain ⟨c0, hc0, hv, -⟩ := nI_ex (x := z) (n := 8) (by simp only [inSh] at qq; omega) (by simp only [inSh] at qq; omega)
            subst hv
            obtain ⟨c, rfl⟩ : ∃ a, c0 = a + 1 := ⟨c0 - 1, by simp only [inSh, nI_toInt (n := c0) (by omega)] at qq; omega⟩
            obtain ⟨d0, hd0, hv, -⟩ := nI_ex (x := w) (n := 6) (by simp only [inSh] at qq; omega) (by simp only [inSh] at qq; omega)
            subst hv
            obtain ⟨d, rfl⟩ : ∃ a, d0 = a + 1 := ⟨d0 - 1, by simp only [inSh, nI_toInt (n := d0) (by omega)] at qq; omega⟩
            obtain ⟨e0, he0, hv, -⟩ := nI_ex (x := p) (n := 8) (by simp only [inSh] at qq; omega) (by simp only [inSh] at qq; omega)
            subst hv
            obtain ⟨e, rfl⟩ : ∃ a, e0 = a + 1 := ⟨e0 - 1, by simp only [inSh, nI_toInt (n := e0) (by omega)] at qq; omega⟩
            obtain ⟨f0, hf0, hv, -⟩ := nI_ex (x := q) (n := 6) (by simp only [inSh] at qq; omega) (by simp only [inSh] at qq; omega)
            subst hv
            obtain ⟨f, rfl⟩ : ∃ a, f0 = a + 1 := ⟨f0 - 1, by simp only [inSh, nI_toInt (n := f0) (by omega)] at qq; omega⟩
            simp only [inSh, nI_toInt (n := a + 1) (by omega), nI_toInt (n := b + 1) (by omega), nI_toInt (n := c + 1) (by omega), nI_toInt (n := d + 1) (by omega), nI_toInt (n := e + 1) (by omega), nI_toInt (n := f + 1) (by omega)] at qq
            have hac : a ≤ c := by rw [nI_ltI (by omega) (by omega)] at c_49; omega
            have hbd : b ≤ d := by rw [nI_leI (by omega) (by omega)] at c_55; omega
            rw [show nI (c + 1) - nI (a + 1) = nI (c - a) by rw [pk_sub (by omega)]; congr 1; omega, show nI (d + 1) - nI (b + 1) = nI (d - b) by rw [pk_sub (by omega)]; congr 1; omega, show (8 : Int32) - nI (e + 1) = nI (7 - e) by rw [li_8, pk_sub (by omega)]; congr 1; omega, show (6 : Int32) - nI (f + 1) = nI (5 - f) by rw [li_6, pk_sub (by omega)]; congr 1; omega, lst_n (n := 0) (by omega) (by omega), lst_n (n := 0) (by omega) (by omega)]
            refine j_iload_n dX12_copy_64 rfl ?_
            refine j_iload_n dX12_copy_65 rfl ?_
            refine j_isub dX12_copy_66 ?_
            rw [show nI (c + 1) - nI (a + 1) = nI (c - a) by rw [pk_sub (by omega)]; congr 1; omega]
            refine j_aload_n dX12_copy_67 rfl ?_
            refine j_getR dX12_copy_68 fl_X12_7 rfl hm.1 (mO hm rfl) ?_
            refine j_bipush (v := 40) dX12_copy_71 (by decide) ?_
            refine j_iald 40 dX12_copy_73 (mK hm rfl) rfl (Nat.lt_of_lt_of_eq (by omega) (mN hm (k := 1) (n := 122) rfl rfl).symm) (Nat.lt_of_le_of_lt (Nat.le_of_eq (mN hm (k := 1) (n := 122) rfl rfl)) (by decide)) ?_
            rw [show hI h (g 1) 40 = 8 by rw [z1]; rfl]
            refine j_iload dX12_copy_74 rfl ?_
            refine j_isub dX12_copy_76 ?_
            rw [show (8 : Int32) - nI (e + 1) = nI (7 - e) by rw [li_8, pk_sub (by omega)]; congr 1; omega]
            refine j_callS2 dX12_copy_77 sl_X12_564 (c_least _ _) rfl (by decide) (by omega) (by omega) (Nat.le_of_ble_eq_true rfl) (fun v_77 u_77 p_77 => ?_)
            obtain ⟨e_77, rfl⟩ := p_77
            rw [e_77]
            clear e_77
            dsimp only [rs]
            refine j_iconst (v := 1) dX12_copy_80 (by decide) ?_
            refine j_iadd dX12_copy_81 ?_
            rw [lst_n (n := 0) (by omega) (by omega)]
            refine j_istore dX12_copy_82 (by decide) ?_
            dsimp only [st1, st2, unL, List.set]
            refine j_iload dX12_copy_84 rfl ?_
            refine j_iload_n dX12_copy_86 rfl ?_
            refine j_isub dX12_copy_87 ?_
            rw [show nI (d + 1) - nI (b + 1) = nI (d - b) by rw [pk_sub (by omega)]; congr 1; omega]
            refine j_aload_n dX12_copy_88 rfl ?_
            refine j_getR dX12_copy_89 fl_X12_13 rfl hm.1 (mO hm rfl) ?_
            refine j_bipush (v := 40) dX12_copy_92 (by decide) ?_
            refine j_iald 40 dX12_copy_94 (mK hm rfl) rfl (Nat.lt_of_lt_of_eq (by omega) (mN hm (k := 2) (n := 122) rfl rfl).symm) (Nat.lt_of_le_of_lt (Nat.le_of_eq (mN hm (k := 2) (n := 122) rfl rfl)) (by decide)) ?_
            rw [show hI h (g 2) 40 = 6 by rw [z2]; rfl]
            refine j_iload dX12_copy_95 rfl ?_
            refine j_isub dX12_copy_97 ?_
            rw [show (6 : Int32) - nI (f + 1) = nI (5 - f) by rw [li_6, pk_sub (by omega)]; congr 1; omega]
            refine j_callS2 dX12_copy_98 sl_X12_564 (c_least _ _) rfl (by decide) (by omega) (by omega) (Nat.le_of_ble_eq_true rfl) (fun v_98 u_98 p_98 => ?_)
            obtain ⟨e_98, rfl⟩ := p_98
            rw [e_98]
            clear e_98
            dsimp only [rs]
            refine j_iconst (v := 1) dX12_copy_101 (by decide) ?_
            refine j_iadd dX12_copy_102 ?_
            rw [lst_n (n := 0) (by omega) (by omega)]
            refine j_istore dX12_copy_103 (by decide) ?_
            dsimp only [st1, st2, unL, List.set]
            refine j_iconst (v := 0) dX12_copy_105 (by decide) ?_
            refine j_istore dX12_copy_106 (by decide) ?_
            dsimp only [st1, st2, unL, List.set]
            refine j_iconst (v := 0) dX12_copy_108 (by decide) ?_
            refine j_istore dX12_copy_109 (by decide) ?_
            dsimp only [st1, st2, unL, List.set]
            refine j_lle (lv' := [some (vr (some (g 0))), some (vi (nI (a + 1))), some (vi (nI (b + 1))), some (vi (nI (c + 1))), some (vi (nI (d + 1))), some (vi (nI (e + 1))), some (vi (nI (f + 1))), some (vi (nI (min (c - a) (7 - e) + 1))), some (vi (nI (min (d - b) (5 - f) + 1))), some (vi 0), some (vi (nI 0)), none, none]) (by simp [lle]; rfl) ?_
            exact l_copy1 (H := min (c - a) (7 - e) + 1) (W := min (d - b) (5 - f) + 1) hf (by omega) (by omega) (by omega) (by omega) (by omega) (by omega) (_ + 1) 0 (Nat.lt_succ_of_le (Nat.le_refl _)) (Nat.zero_le _)
          · refine j_aload_n dX12_copy_58 rfl ?_
            refine j_iconst (v := 2) dX12_copy_59 (by decide) ?_
            refine j_callV1 dX12_copy_60 vl_X12_237 (c_throwing 2 hm) hm.1 rfl (by decide) (by omega) (by omega) (Nat.le_of_ble_eq_true rfl) (fun v_60 u_60 p_60 => ?_)
            obtain ⟨e_, rfl⟩ := p_60
            rw [e_]
            clear e_
            dsimp only [rs]
            have ql : z < x ∨ w < y := by simp only [le_i, lt_i] at *; omega
            exact j_ireturn dX12_copy_63 rfl rfl ⟨by rw [cpR, if_pos qq, if_pos ql], hm, by rw [hI_pI, if_pos ⟨rfl, rfl⟩, cpT, if_pos qq, if_pos ql]⟩
      · refine j_aload_n dX12_copy_41 rfl ?_
        refine j_iconst (v := 1) dX12_copy_42 (by decide) ?_
        refine j_callV1 dX12_copy_43 vl_X12_237 (c_throwing 1 hm) hm.1 rfl (by decide) (by omega) (by omega) (Nat.le_of_ble_eq_true rfl) (fun v_43 u_43 p_43 => ?_)
        obtain ⟨e_, rfl⟩ := p_43
        rw [e_]
        clear e_
        dsimp only [rs]
        have qq : ¬ (inSh 8 6 x y ∧ inSh 8 6 z w ∧ inSh 8 6 p q) := fun k => by first | exact b2_0.mp c_13 k.1 | exact b2_0.mp c_25 k.2.1 | exact b2_0.mp (Classical.not_not.mp c_38) k.2.2
        exact j_ireturn dX12_copy_46 rfl rfl ⟨by rw [cpR, if_neg qq], hm, by rw [hI_pI, if_pos ⟨rfl, rfl⟩, cpT, if_neg qq]⟩

