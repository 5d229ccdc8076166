/-! ===== the system on a fresh object: sorted, compared ===== -/
theorem clw_11 : Cond.methodLink RX11 215 ⟨"[I", "clone", "()Ljava/lang/Object;"⟩ ∈ gtb := (gtb_in (List.mem_of_getElem? (i := 1408) (by decide +kernel)) (by decide +kernel))
theorem caw_11 : Cond.classLink RX11 216 "[I" ∈ gtb := (gtb_in (List.mem_of_getElem? (i := 1414) (by decide +kernel)) (by decide +kernel))
def plF (f n : Nat) : Nat → Int32 := fun j => if j < n then nI (f + 1 + j) else 0
theorem plF_s (f i : Nat) : upd (plF f i) i (nI (f + 1 + i)) = plF f (i + 1) := by
  funext j
  by_cases e : j = i
  · subst e; simp [upd, plF]
  · simp only [upd, if_neg e, plF]
    by_cases q : j < i
    · rw [if_pos q, if_pos (show j < i + 1 by omega)]
    · rw [if_neg q, if_neg (show ¬ j < i + 1 by omega)]
set_option maxRecDepth 20000 in
theorem c_orderOf0 {h : Hp} {e : Nat} {t : Int32} (k1 : hK h e = 9) (i1 : hI h e 1 = 0) : Con mX11_orderOf 1 0 0 [vr (some e), vr (some e), vi t] h (fun v u => u = h ∧ v = some (vi 0)) := by
  refine con_of rfl (Nat.le_of_ble_eq_true rfl) (by decide) ?_
  show J mX11_orderOf 1 0 0 _ 0 [some (vr (some e)), some (vr (some e)), some (vi t), none] [] h
  refine j_aload_n dX11_orderOf_0 rfl ?_
  refine j_getI dX11_orderOf_1 fl_X11_349 rfl k1 ?_
  rw [i1]
  refine j_if_eq 14 dX11_orderOf_4 (by decide) (fun c_4 => ?_) (fun c_4 => ?_)
  · refine j_aload_n dX11_orderOf_14 rfl ?_
    refine j_getI dX11_orderOf_15 fl_X11_349 rfl k1 ?_
    rw [i1]
    refine j_if_ne 25 dX11_orderOf_18 (by decide) (fun c_18 => ?_) (fun c_18 => ?_)
    · exact absurd c_18 (fun e => e rfl)
    · refine j_iconst (v := 1) dX11_orderOf_21 (by decide) ?_
      refine j_goto 26 dX11_orderOf_22 (by decide) ?_
      refine j_aload_n dX11_orderOf_26 rfl ?_
      refine j_getI dX11_orderOf_27 fl_X11_349 rfl k1 ?_
      rw [i1]
      refine j_if_ne 37 dX11_orderOf_30 (by decide) (fun c_30 => ?_) (fun c_30 => ?_)
      · exact absurd c_30 (fun e => e rfl)
      · refine j_iconst (v := 1) dX11_orderOf_33 (by decide) ?_
        refine j_goto 38 dX11_orderOf_34 (by decide) ?_
        refine j_isub dX11_orderOf_38 ?_
        exact j_ireturn dX11_orderOf_39 rfl rfl (⟨rfl, rfl⟩)
  · exact absurd rfl c_4

set_option maxRecDepth 20000 in
theorem l_places {h u : Hp} {b : Nat → Nat} {w xw c f e n q : Nat} {t : Int32} (fc : FC h b w xw) (hF : Fr (RS b w) h u) (hs : Sh u w (b 36) (b 37) xw 8 6) (hz : ∀ j, j < 48 → hO u xw j = none) (hc : c < 6) (hn : f + n ≤ 8) (hq : hK u q = 0) : ∀ (n_ : Nat) (i : Nat), n - i < n_ → (i ≤ n) → J mX11_placesInOrder 4 0 0 (nx (fun v u2 => v = some (vr (some q)) ∧ u2 = (sI (nw u q 15 n) q (plF f n)))) 16 [some (vr (some (b 0))), some (vi (nI (c + 1))), some (vi (nI (f + 1))), some (vi (nI (e + 1))), some (vi t), some (vr (some q)), some (vi (nI i)), none, none] [] (sI (nw u q 15 n) q (plF f i)) := by
  intro n_
  induction n_ with
  | zero => intro i hlt; omega
  | succ n_ ih =>
    intro i hlt hinv
    have hE : Ex u (sI (nw u q 15 n) q (plF f i)) := Fr_sI (Fr_nw Fr_rf hq) (Or.inr hq)
    have hq0 : hK h q = 0 := Classical.byContradiction fun z => by have := (hF q z).1; omega
    have hF' : Fr (RS b w) h (sI (nw u q 15 n) q (plF f i)) := Fr_sI (Fr_nw hF hq) (Or.inr hq0)
    have hs' := Sh_fr hE (fun z => z) hs
    have hz' : ∀ j, j < 48 → hO (sI (nw u q 15 n) q (plF f i)) xw j = none := fun j hj => Fr_O hE hs.2.2.2.2.2.2.2.2.1 (by decide) (fun z => z) (hz j hj)
    have g0 := Fr_K hF' (fcK fc 0 (c := 12) rfl rfl) (by decide)
    have g7 := Fr_K hF' (fcK fc 7 (c := 9) rfl rfl) (by decide)
    have i7 := Fr_I hF' (fcK fc 7 (c := 9) rfl rfl) (by decide) (rs_w fc rfl rfl rfl rfl) (fcI fc 7 1 0 (by decide))
    have kq : hK (sI (nw u q 15 n) q (plF f i)) q = 15 := by show hK (nw u q 15 n) q = 15; rw [hK_nw, if_pos rfl]
    have nq : hN (sI (nw u q 15 n) q (plF f i)) q = n := by show hN (nw u q 15 n) q = n; rw [hN_nw, if_pos rfl]
    refine j_iload dX11_placesInOrder_16 rfl ?_
    refine j_aload dX11_placesInOrder_18 rfl ?_
    refine j_alen dX11_placesInOrder_20 (t := 1) kq (by decide) ?_
    rw [nq]
    refine j_icmp_ge 101 dX11_placesInOrder_21 (by decide) (fun c_21 => ?_) (fun c_21 => ?_)
    · have he : i = n := by rw [nI_leI (by omega) (by omega)] at c_21; omega
      subst he
      refine j_aload dX11_placesInOrder_101 rfl ?_
      exact j_areturn dX11_placesInOrder_103 rfl rfl (⟨rfl, rfl⟩)
    · have hlt2 : i < n := by rw [nI_leI (by omega) (by omega)] at c_21; omega
      refine j_aload_n dX11_placesInOrder_24 rfl ?_
      refine j_iconst (v := -1) dX11_placesInOrder_25 (by decide) ?_
      refine j_iload_n dX11_placesInOrder_26 rfl ?_
      refine j_iload dX11_placesInOrder_27 rfl ?_
      refine j_iadd dX11_placesInOrder_29 ?_
      refine j_iload_n dX11_placesInOrder_30 rfl ?_
      rw [nI_add, show f + 1 + i = f + i + 1 by omega]
      refine j_callV3 dX11_placesInOrder_31 vl_X11_345 (d_seenW fc hF' hs' hz' (i := f + i) (j := c) (by omega) hc) g0 rfl (by decide) (by omega) (by omega) (Nat.le_of_ble_eq_true rfl) (fun v_31 u_31 p_31 => ?_)
      obtain ⟨e_31, rfl⟩ := p_31
      rw [e_31]
      clear e_31
      dsimp only [rs]
      refine j_astore dX11_placesInOrder_34 (by decide) ?_
      dsimp only [st1, st2, unL, List.set]
      refine j_iload dX11_placesInOrder_36 rfl ?_
      refine j_istore dX11_placesInOrder_38 (by decide) ?_
      dsimp only [st1, st2, unL, List.set]
      refine j_iload dX11_placesInOrder_40 rfl ?_
      refine j_if_le 86 dX11_placesInOrder_42 (by decide) (fun c_42 => ?_) (fun c_42 => ?_)
      · refine j_aload dX11_placesInOrder_86 rfl ?_
        refine j_iload dX11_placesInOrder_88 rfl ?_
        refine j_iload_n dX11_placesInOrder_90 rfl ?_
        refine j_iload dX11_placesInOrder_91 rfl ?_
        refine j_iadd dX11_placesInOrder_93 ?_
        refine j_iast i dX11_placesInOrder_94 kq rfl (by rw [nq]; exact hlt2) (by rw [nq]; omega) ?_
        rw [pI_sI, nI_add, plF_s]
        refine j_iinc dX11_placesInOrder_95 rfl ?_
        dsimp only [st1, st2, unL, List.set]
        refine j_goto 16 dX11_placesInOrder_98 (by decide) ?_
        refine j_lle (lv' := [some (vr (some (b 0))), some (vi (nI (c + 1))), some (vi (nI (f + 1))), some (vi (nI (e + 1))), some (vi t), some (vr (some q)), some (vi (nI (i + 1))), none, none]) (by first | (simp [lle, nI_1]; done) | (simp [lle, nI_1]; rfl)) ?_
        exact ih (i + 1) (by omega) (by omega)
      · have hi0 : 0 < i := by rw [li_0, nI_leI (by omega) (by omega)] at c_42; omega
        refine j_aload_n dX11_placesInOrder_45 rfl ?_
        refine j_iconst (v := -1) dX11_placesInOrder_46 (by decide) ?_
        refine j_aload dX11_placesInOrder_47 rfl ?_
        refine j_iload dX11_placesInOrder_49 rfl ?_
        refine j_iconst (v := 1) dX11_placesInOrder_51 (by decide) ?_
        refine j_isub dX11_placesInOrder_52 ?_
        refine j_iald (i - 1) dX11_placesInOrder_53 kq (by rw [li_1, pk_sub (by omega)]) (by rw [nq]; omega) (by rw [nq]; omega) ?_
        rw [hI_sI1, show plF f i (i - 1) = nI (f + (i - 1) + 1) by rw [plF, if_pos (by omega)]; congr 1; omega]
        refine j_iload_n dX11_placesInOrder_54 rfl ?_
        refine j_callV3 dX11_placesInOrder_55 vl_X11_345 (d_seenW fc hF' hs' hz' (i := f + (i - 1)) (j := c) (by omega) hc) g0 rfl (by decide) (by omega) (by omega) (Nat.le_of_ble_eq_true rfl) (fun v_55 u_55 p_55 => ?_)
        obtain ⟨e_55, rfl⟩ := p_55
        rw [e_55]
        clear e_55
        dsimp only [rs]
        refine j_aload dX11_placesInOrder_58 rfl ?_
        refine j_iload dX11_placesInOrder_60 rfl ?_
        refine j_callS3 dX11_placesInOrder_62 sl_X11_425 (c_orderOf0 g7 i7) rfl (by decide) (by omega) (by omega) (Nat.le_of_ble_eq_true rfl) (fun v_62 u_62 p_62 => ?_)
        obtain ⟨e_62, rfl⟩ := p_62
        rw [e_62]
        clear e_62
        dsimp only [rs]
        refine j_if_le 86 dX11_placesInOrder_65 (by decide) (fun c_65 => ?_) (fun c_65 => ?_)
        · refine j_aload dX11_placesInOrder_86 rfl ?_
          refine j_iload dX11_placesInOrder_88 rfl ?_
          refine j_iload_n dX11_placesInOrder_90 rfl ?_
          refine j_iload dX11_placesInOrder_91 rfl ?_
          refine j_iadd dX11_placesInOrder_93 ?_
          refine j_iast i dX11_placesInOrder_94 kq rfl (by rw [nq]; exact hlt2) (by rw [nq]; omega) ?_
          rw [pI_sI, nI_add, plF_s]
          refine j_iinc dX11_placesInOrder_95 rfl ?_
          dsimp only [st1, st2, unL, List.set]
          refine j_goto 16 dX11_placesInOrder_98 (by decide) ?_
          refine j_lle (lv' := [some (vr (some (b 0))), some (vi (nI (c + 1))), some (vi (nI (f + 1))), some (vi (nI (e + 1))), some (vi t), some (vr (some q)), some (vi (nI (i + 1))), none, none]) (by first | (simp [lle, nI_1]; done) | (simp [lle, nI_1]; rfl)) ?_
          exact ih (i + 1) (by omega) (by omega)
        · exact absurd (by decide) c_65

set_option maxRecDepth 20000 in
theorem c_places {h u : Hp} {b : Nat → Nat} {w xw c f e : Nat} {t : Int32} (fc : FC h b w xw) (hF : Fr (RS b w) h u) (hs : Sh u w (b 36) (b 37) xw 8 6) (hz : ∀ j, j < 48 → hO u xw j = none) (hc : c < 6) (hfe : f ≤ e) (he : e < 8) : Con mX11_placesInOrder 4 1 8 [vr (some (b 0)), vi (nI (c + 1)), vi (nI (f + 1)), vi (nI (e + 1)), vi t] u (fun v u2 => ∃ q, hK u q = 0 ∧ v = some (vr (some q)) ∧ u2 = sI (nw u q 15 (e - f + 1)) q (plF f (e - f + 1))) := by
  refine con_of rfl (Nat.le_of_ble_eq_true rfl) (by decide) ?_
  show J mX11_placesInOrder 4 1 8 _ 0 [some (vr (some (b 0))), some (vi (nI (c + 1))), some (vi (nI (f + 1))), some (vi (nI (e + 1))), some (vi t), none, none, none, none] [] u
  refine j_iload_n dX11_placesInOrder_0 rfl ?_
  refine j_iload_n dX11_placesInOrder_1 rfl ?_
  refine j_isub dX11_placesInOrder_2 ?_
  refine j_iconst (v := 1) dX11_placesInOrder_3 (by decide) ?_
  refine j_iadd dX11_placesInOrder_4 ?_
  refine j_iconst (v := 0) dX11_placesInOrder_5 (by decide) ?_
  refine j_mmax dX11_placesInOrder_6 sl_X11_365 (by decide) (Nat.le_of_ble_eq_true rfl) ?_
  rw [pk_sub (by omega), nI_1, show e + 1 - (f + 1) + 1 = e - f + 1 by omega, show (if nI (e - f + 1) < (0 : Int32) then 0 else nI (e - f + 1)) = nI (e - f + 1) from if_neg (nI_pos (by omega))]
  refine j_mono (mc' := 0 + 1) (ms' := 0 + (e - f + 1)) (by omega) (by omega) ?_
  refine j_newI ((e - f + 1)) dX11_placesInOrder_9 ac_int rfl (by omega) (fun q_9 hq_9 => ?_)
  refine j_astore dX11_placesInOrder_11 (by decide) ?_
  dsimp only [st1, st2, unL, List.set]
  refine j_iconst (v := 0) dX11_placesInOrder_13 (by decide) ?_
  refine j_istore dX11_placesInOrder_14 (by decide) ?_
  dsimp only [st1, st2, unL, List.set]
  refine j_lle (lv' := [some (vr (some (b 0))), some (vi (nI (c + 1))), some (vi (nI (f + 1))), some (vi (nI (e + 1))), some (vi t), some (vr (some q_9)), some (vi (nI 0)), none, none]) (by first | (simp [lle, nI_1]; done) | (simp [lle, nI_1]; rfl)) ?_
  have z : sI (nw u q_9 15 (e - f + 1)) q_9 (plF f 0) = nw u q_9 15 (e - f + 1) := by
    rw [show plF f 0 = hI (nw u q_9 15 (e - f + 1)) q_9 by funext j; rw [plF, if_neg (by omega), hI_nw, if_pos rfl], sI_self]
  rw [← z]
  refine j_mono (mc' := 0) (ms' := 0) (by omega) (by omega) ?_
  refine j_post (fun o_ u_ hp_ => ?_) (l_places fc hF hs hz hc (by omega) hq_9 (e - f + 2) 0 (by omega) (by omega))
  cases o_ with
  | inl v_ => exact ⟨q_9, hq_9, hp_.1, hp_.2⟩
  | inr E_ => exact hp_

set_option maxRecDepth 20000 in
theorem l_so {h u6 : Hp} {b : Nat → Nat} {w xw c f e n q3 q6 : Nat} {t : Int32} (fs : FS u6 b w) (hF : Fr (CC b w xw) h u6) (hs : Sh u6 w (b 36) (b 37) xw 8 6) (hc : Cel u6 xw (8 * 6)) (k3 : hK u6 q3 = 15) (n3 : hN u6 q3 = n) (i3 : hI u6 q3 = plF f n) (k6 : hK u6 q6 = 15) (n6 : hN u6 q6 = 8) (i6 : hI u6 q6 = hI u6 (b 36)) (hn : f + n ≤ 8) : ∀ (n_ : Nat) (i : Nat), n - i < n_ → (i ≤ n) → J mX11_sort 6 3 330 (px h b w xw ["java/lang/IndexOutOfBoundsException", "java/lang/IllegalArgumentException"] 0 0) 82 [some (vr (some (b 0))), some (vi (nI (c + 1))), some (vi (nI (f + 1))), some (vi (nI (e + 1))), some (vi t), some (vr (some q3)), some (vr (some q6)), some (vi 0), some (vi (nI i))] [] u6 := by
  intro n_
  induction n_ with
  | zero => intro i hlt; omega
  | succ n_ ih =>
    intro i hlt hinv
    refine j_iload dX11_sort_82 rfl ?_
    refine j_aload dX11_sort_84 rfl ?_
    refine j_alen dX11_sort_86 (t := 1) k3 (by decide) ?_
    rw [n3]
    refine j_icmp_ge 142 dX11_sort_87 (by decide) (fun c_87 => ?_) (fun c_87 => ?_)
    · refine j_aload_n dX11_sort_142 rfl ?_
      refine j_aload_n dX11_sort_143 rfl ?_
      refine j_getR dX11_sort_144 fl_X11_104 rfl fs.1 fs.2.1 ?_
      refine j_iconst (v := 0) dX11_sort_147 (by decide) ?_
      refine j_aload dX11_sort_148 rfl ?_
      refine j_callV2 dX11_sort_150 vl_X11_177 (c_shaped0 hs hc k6 n6 (by decide) (by decide)) (by first | exact hs.1 | exact (FS_fr fs hEx (fun z => z) (fun z => z)).1) rfl (by decide) (by omega) (by omega) (Nat.le_of_ble_eq_true rfl) (fun v_150 u_150 p_150 => ?_)
      obtain ⟨q2, rfl, hq20, hq2, hEx⟩ := p_150
      dsimp only [rs]
      refine j_callV1 dX11_sort_153 vl_X11_145 (d_step (FS_fr fs hEx (fun z => z) (fun z => z))) (by first | exact hs.1 | exact (FS_fr fs hEx (fun z => z) (fun z => z)).1) rfl (by decide) (by omega) (by omega) (Nat.le_of_ble_eq_true rfl) (fun v_153 u_153 p_153 => ?_)
      obtain ⟨rfl, rfl⟩ := p_153
      dsimp only [rs]
      refine j_iload dX11_sort_156 rfl ?_
      exact j_ireturn dX11_sort_158 rfl rfl ⟨stp11_fr (Fr_tr2 hF (frE (S := CC b w xw) hEx) (fun _ _ z => z)), rfl, rfl⟩
    · have hlt2 : i < n := by rw [nI_leI (by omega) (by omega)] at c_87; omega
      refine j_aload dX11_sort_90 rfl ?_
      refine j_iload_n dX11_sort_92 rfl ?_
      refine j_iconst (v := 1) dX11_sort_93 (by decide) ?_
      refine j_isub dX11_sort_94 ?_
      refine j_iload dX11_sort_95 rfl ?_
      refine j_iadd dX11_sort_97 ?_
      refine j_aload_n dX11_sort_98 rfl ?_
      refine j_getR dX11_sort_99 fl_X11_104 rfl fs.1 fs.2.1 ?_
      refine j_getR dX11_sort_102 fl_X11_190 rfl hs.1 hs.2.1 ?_
      refine j_aload dX11_sort_105 rfl ?_
      refine j_iload dX11_sort_107 rfl ?_
      refine j_iald i dX11_sort_109 k3 rfl (by rw [n3]; exact hlt2) (by rw [n3]; omega) ?_
      rw [i3, show plF f n i = nI (f + 1 + i) from if_pos hlt2]
      refine j_iconst (v := 1) dX11_sort_110 (by decide) ?_
      refine j_isub dX11_sort_111 ?_
      refine j_iald (f + i) dX11_sort_112 hs.2.2.2.2.1 (by rw [li_1, pk_sub (by omega)]; congr 1; omega) (by rw [hs.2.2.2.2.2.1]; omega) (by rw [hs.2.2.2.2.2.1]; decide) ?_
      refine j_iast (f + i) dX11_sort_113 k6 (by rw [li_1, pk_sub (by omega), nI_add]; congr 1) (by rw [n6]; omega) (by rw [n6]; decide) ?_
      rw [pI_same (show hI u6 q6 (f + i) = hI u6 (b 36) (f + i) by rw [i6])]
      refine j_iload dX11_sort_114 rfl ?_
      refine j_aload dX11_sort_116 rfl ?_
      refine j_iload dX11_sort_118 rfl ?_
      refine j_iald i dX11_sort_120 k3 rfl (by rw [n3]; exact hlt2) (by rw [n3]; omega) ?_
      rw [i3, show plF f n i = nI (f + 1 + i) from if_pos hlt2]
      refine j_iload_n dX11_sort_121 rfl ?_
      refine j_iload dX11_sort_122 rfl ?_
      refine j_iadd dX11_sort_124 ?_
      refine j_icmp_eq 132 dX11_sort_125 (by decide) (fun c_125 => ?_) (fun c_125 => ?_)
      · refine j_iconst (v := 0) dX11_sort_132 (by decide) ?_
        refine j_iadd dX11_sort_133 ?_
        refine j_istore dX11_sort_134 (by decide) ?_
        dsimp only [st1, st2, unL, List.set]
        refine j_iinc dX11_sort_136 rfl ?_
        dsimp only [st1, st2, unL, List.set]
        refine j_goto 82 dX11_sort_139 (by decide) ?_
        refine j_lle (lv' := [some (vr (some (b 0))), some (vi (nI (c + 1))), some (vi (nI (f + 1))), some (vi (nI (e + 1))), some (vi t), some (vr (some q3)), some (vr (some q6)), some (vi 0), some (vi (nI (i + 1)))]) (by first | (simp [lle, nI_1]; done) | (simp [lle, nI_1]; rfl)) ?_
        exact ih (i + 1) (by omega) (by omega)
      · exact absurd (by rw [nI_add]) c_125

set_option maxRecDepth 20000 in
theorem d_sort {h : Hp} {b : Nat → Nat} {w xw : Nat} (x y z t : Int32) (fc : FC h b w xw) : ConX mX11_sort 6 6 400 [vr (some (b 0)), vi x, vi y, vi z, vi t] h (px h b w xw ["java/lang/IndexOutOfBoundsException", "java/lang/IllegalArgumentException"] (soT x y z) (0)) := by
  refine con_ofX rfl (Nat.le_of_ble_eq_true rfl) (by decide) (by decide) ?_
  show J mX11_sort 6 6 400 _ 0 [some (vr (some (b 0))), some (vi x), some (vi y), some (vi z), some (vi t), none, none, none, none] [] h
  refine j_aload_n dX11_sort_0 rfl ?_
  refine j_getR dX11_sort_1 fl_X11_104 rfl (fcK fc 0 rfl rfl) (fcW fc) ?_
  refine j_iload_n dX11_sort_4 rfl ?_
  refine j_iload_n dX11_sort_5 rfl ?_
  refine j_callV2 dX11_sort_6 vl_X11_113 (c_has _ _ (fcS fc)) (fcS fc).1 rfl (by decide) (by omega) (by omega) (Nat.le_of_ble_eq_true rfl) (fun v_6 u_6 p_6 => ?_)
  obtain ⟨e_6, rfl⟩ := p_6
  rw [e_6]
  clear e_6
  dsimp only [rs]
  refine j_if_eq 24 dX11_sort_9 (by decide) (fun c_9 => ?_) (fun c_9 => ?_)
  · have eq : soT x y z = 1 := by rw [soT, if_neg (fun k => by first | exact b2_0.mp c_9 k.1 | exact b2_0.mp (Classical.not_not.mp c_21) k.2)]
    exact j_throw (E := "java/lang/IndexOutOfBoundsException") ⟨117, 119, by decide, dX11_sort_24, dX11_sort_27, dX11_sort_28, dX11_sort_31⟩ (by omega) (by omega) (Nat.le_of_ble_eq_true rfl) ⟨Fr_rf, by rw [eq]; decide, by rw [eq]; rfl⟩
  · refine j_aload_n dX11_sort_12 rfl ?_
    refine j_getR dX11_sort_13 fl_X11_104 rfl (fcK fc 0 rfl rfl) (fcW fc) ?_
    refine j_iload_n dX11_sort_16 rfl ?_
    refine j_iload_n dX11_sort_17 rfl ?_
    refine j_callV2 dX11_sort_18 vl_X11_113 (c_has _ _ (fcS fc)) (fcS fc).1 rfl (by decide) (by omega) (by omega) (Nat.le_of_ble_eq_true rfl) (fun v_18 u_18 p_18 => ?_)
    obtain ⟨e_18, rfl⟩ := p_18
    rw [e_18]
    clear e_18
    dsimp only [rs]
    refine j_if_ne 32 dX11_sort_21 (by decide) (fun c_21 => ?_) (fun c_21 => ?_)
    · have qq : inSh 8 6 y x ∧ inSh 8 6 z x := ⟨b2_nn.mp c_9, b2_n.mp c_21⟩
      refine j_iload_n dX11_sort_32 rfl ?_
      refine j_iload_n dX11_sort_33 rfl ?_
      refine j_icmp_ge 45 dX11_sort_34 (by decide) (fun c_34 => ?_) (fun c_34 => ?_)
      · have ql : ¬ z < y := by simp only [le_i, lt_i] at *; omega
        rw [show soT x y z = 0 by rw [soT, if_pos qq, if_neg ql]]
        obtain ⟨c0, hc0, hv, -⟩ := nI_ex (x := x) (n := 6) (by simp only [inSh] at qq; omega) (by simp only [inSh] at qq; omega)
        subst hv
        obtain ⟨c, rfl⟩ : ∃ a, c0 = a + 1 := ⟨c0 - 1, by simp only [inSh, nI_toInt (n := c0) (by omega)] at qq; omega⟩
        obtain ⟨f0, hf0, hv, -⟩ := nI_ex (x := y) (n := 8) (by simp only [inSh] at qq; omega) (by simp only [inSh] at qq; omega)
        subst hv
        obtain ⟨f, rfl⟩ : ∃ a, f0 = a + 1 := ⟨f0 - 1, by simp only [inSh, nI_toInt (n := f0) (by omega)] at qq; omega⟩
        obtain ⟨e0, he0, hv, -⟩ := nI_ex (x := z) (n := 8) (by simp only [inSh] at qq; omega) (by simp only [inSh] at qq; omega)
        subst hv
        obtain ⟨e, rfl⟩ : ∃ a, e0 = a + 1 := ⟨e0 - 1, by simp only [inSh, nI_toInt (n := e0) (by omega)] at qq; omega⟩
        simp only [inSh, nI_toInt (n := c + 1) (by omega), nI_toInt (n := f + 1) (by omega), nI_toInt (n := e + 1) (by omega)] at qq
        have hfe : f ≤ e := by rw [nI_leI (by omega) (by omega)] at c_34; omega
        refine j_aload_n dX11_sort_45 rfl ?_
        refine j_iconst (v := -1) dX11_sort_46 (by decide) ?_
        refine j_callV1 dX11_sort_47 vl_X11_208 (d_readyW fc) (fcK fc 0 rfl rfl) rfl (by decide) (by omega) (by omega) (Nat.le_of_ble_eq_true rfl) (fun v_47 u_47 p_47 => ?_)
        obtain ⟨rfl, hF, hs2, hz2⟩ := p_47
        have g0 := Fr_K hF (fcK fc 0 (c := 12) rfl rfl) (by decide)
        dsimp only [rs]
        refine j_aload_n dX11_sort_50 rfl ?_
        refine j_iload_n dX11_sort_51 rfl ?_
        refine j_iload_n dX11_sort_52 rfl ?_
        refine j_iload_n dX11_sort_53 rfl ?_
        refine j_iload dX11_sort_54 rfl ?_
        refine j_callV4 dX11_sort_56 vl_X11_211 (c_places fc hF hs2 hz2 (by omega) hfe (by omega)) (by first | exact fcK fc 0 rfl rfl | exact (fcS fc).1 | exact g0) rfl (by decide) (by omega) (by omega) (Nat.le_of_ble_eq_true rfl) (fun v_56 u_56 p_56 => ?_)
        obtain ⟨q3, hq3, rfl, rfl⟩ := p_56
        have hE3 : Ex u_47 (sI (nw u_47 q3 15 (e - f + 1)) q3 (plF f (e - f + 1))) := Fr_sI (Fr_nw Fr_rf hq3) (Or.inr hq3)
        have hq30 : hK h q3 = 0 := Classical.byContradiction fun z => by have := (hF q3 z).1; omega
        have hF3 : Fr (RS b w) h (sI (nw u_47 q3 15 (e - f + 1)) q3 (plF f (e - f + 1))) := Fr_sI (Fr_nw hF hq3) (Or.inr hq30)
        have hs3 := Sh_fr hE3 (fun z => z) hs2
        have hz3 : ∀ j, j < 48 → hO (sI (nw u_47 q3 15 (e - f + 1)) q3 (plF f (e - f + 1))) xw j = none := fun j hj => Fr_O hE3 hs2.2.2.2.2.2.2.2.2.1 (by decide) (fun z => z) (hz2 j hj)
        have kq3 : hK (sI (nw u_47 q3 15 (e - f + 1)) q3 (plF f (e - f + 1))) q3 = 15 := by show hK (nw u_47 q3 15 (e - f + 1)) q3 = 15; rw [hK_nw, if_pos rfl]
        have nq3 : hN (sI (nw u_47 q3 15 (e - f + 1)) q3 (plF f (e - f + 1))) q3 = e - f + 1 := by show hN (nw u_47 q3 15 (e - f + 1)) q3 = e - f + 1; rw [hN_nw, if_pos rfl]
        have iq3 : hI (sI (nw u_47 q3 15 (e - f + 1)) q3 (plF f (e - f + 1))) q3 = plF f (e - f + 1) := hI_sI1 _ _ _
        have fs3 := FS_fr (FS_fc fc) hF3 (rs_w fc rfl rfl rfl rfl) (rs_w fc rfl rfl rfl rfl)
        generalize sI (nw u_47 q3 15 (e - f + 1)) q3 (plF f (e - f + 1)) = u3 at hE3 hF3 hs3 hz3 kq3 nq3 iq3 fs3 ⊢
        dsimp only [rs]
        refine j_astore dX11_sort_59 (by decide) ?_
        dsimp only [st1, st2, unL, List.set]
        refine j_aload_n dX11_sort_61 rfl ?_
        refine j_getR dX11_sort_62 fl_X11_104 rfl fs3.1 fs3.2.1 ?_
        refine j_getR dX11_sort_65 fl_X11_190 rfl hs3.1 hs3.2.1 ?_
        refine j_mono (mc' := 3 + 1) (ms' := 330 + 8) (by omega) (by omega) ?_
        refine j_clone 8 dX11_sort_68 clw_11 hs3.2.2.2.2.1 hs3.2.2.2.2.2.1 (by decide) (Nat.le_of_ble_eq_true rfl) (fun q6 hq6 => ?_)
        have hE6 : Ex u3 (sI (nw u3 q6 15 8) q6 (hI u3 (b 36))) := Fr_sI (Fr_nw Fr_rf hq6) (Or.inr hq6)
        have hF6 : Fr (CC b w xw) h (sI (nw u3 q6 15 8) q6 (hI u3 (b 36))) := Fr_tr2 (Fr_mono hF3 (fun c _ e => rs_cc (ccW b w xw) e)) (frE (S := CC b w xw) hE6) (fun _ _ z => z)
        have kq6 : hK (sI (nw u3 q6 15 8) q6 (hI u3 (b 36))) q6 = 15 := by show hK (nw u3 q6 15 8) q6 = 15; rw [hK_nw, if_pos rfl]
        have nq6 : hN (sI (nw u3 q6 15 8) q6 (hI u3 (b 36))) q6 = 8 := by show hN (nw u3 q6 15 8) q6 = 8; rw [hN_nw, if_pos rfl]
        have ib : hI (sI (nw u3 q6 15 8) q6 (hI u3 (b 36))) (b 36) = hI u3 (b 36) := ((hE6 (b 36) (by rw [hs3.2.2.2.2.1]; decide)).2.2 (fun z => z)).1
        have iq6 : hI (sI (nw u3 q6 15 8) q6 (hI u3 (b 36))) q6 = hI (sI (nw u3 q6 15 8) q6 (hI u3 (b 36))) (b 36) := by rw [ib]; exact hI_sI1 _ _ _
        have hc6 : Cel (sI (nw u3 q6 15 8) q6 (hI u3 (b 36))) xw (8 * 6) := Cel_ex (n := 8 * 6) (k := 18) hE6 hs3.2.2.2.2.2.2.2.2.1 (fun k v hk hv => by rw [hz3 k hk] at hv; cases hv)
        refine j_castI dX11_sort_71 caw_11 kq6 ?_
        refine j_astore dX11_sort_74 (by decide) ?_
        dsimp only [st1, st2, unL, List.set]
        refine j_iconst (v := 0) dX11_sort_76 (by decide) ?_
        refine j_istore dX11_sort_77 (by decide) ?_
        dsimp only [st1, st2, unL, List.set]
        refine j_iconst (v := 0) dX11_sort_79 (by decide) ?_
        refine j_istore dX11_sort_80 (by decide) ?_
        dsimp only [st1, st2, unL, List.set]
        refine j_lle (lv' := [some (vr (some (b 0))), some (vi (nI (c + 1))), some (vi (nI (f + 1))), some (vi (nI (e + 1))), some (vi t), some (vr (some q3)), some (vr (some q6)), some (vi 0), some (vi (nI 0))]) (by first | (simp [lle, nI_1]; done) | (simp [lle, nI_1]; rfl)) ?_
        exact l_so (FS_fr fs3 hE6 (fun z => z) (fun z => z)) hF6 (Sh_fr hE6 (fun z => z) hs3) hc6 (Fr_K hE6 kq3 (by decide)) (Fr_N hE6 kq3 (by decide) nq3) (((hE6 q3 (by rw [kq3]; decide)).2.2 (fun z => z)).1.trans iq3) kq6 nq6 iq6 (by omega) (e - f + 2) 0 (by omega) (by omega)
      · have eq : soT x y z = 2 := by rw [soT, if_pos qq, if_pos (by simp only [le_i, lt_i] at *; omega)]
        exact j_throw (E := "java/lang/IllegalArgumentException") ⟨127, 129, by decide, dX11_sort_37, dX11_sort_40, dX11_sort_41, dX11_sort_44⟩ (by omega) (by omega) (Nat.le_of_ble_eq_true rfl) ⟨Fr_rf, by rw [eq]; decide, by rw [eq]; rfl⟩
    · have eq : soT x y z = 1 := by rw [soT, if_neg (fun k => by first | exact b2_0.mp c_9 k.1 | exact b2_0.mp (Classical.not_not.mp c_21) k.2)]
      exact j_throw (E := "java/lang/IndexOutOfBoundsException") ⟨117, 119, by decide, dX11_sort_24, dX11_sort_27, dX11_sort_28, dX11_sort_31⟩ (by omega) (by omega) (Nat.le_of_ble_eq_true rfl) ⟨Fr_rf, by rw [eq]; decide, by rw [eq]; rfl⟩

theorem pl1_l {f : Nat → Int32} {n i : Nat} (hn : n ≤ 32) (h : ∀ j, j < n → f j = nI (j + 1)) (hi : i < n) : pl1 f (nI (i + 1)) n = i + 1 :=
  pl1_at (fun j hj => by rw [h j (by omega)]; intro e; rw [nI_eq (by omega) (by omega)] at e; omega) (h i hi) hi
theorem nI_s0 {i : Nat} (hi : i < 1000) : ¬ nI (i + 1) = 0 := by rw [li_0, nI_eq (by omega) (by omega)]; omega
set_option maxRecDepth 20000 in
theorem l_placeIn {h : Hp} {la n i : Nat} (k1 : hK h la = 15) (k2 : hN h la = n) (hn : n ≤ 32) (hl : ∀ j, j < n → hI h la j = nI (j + 1)) (hi : i < n) : ∀ (n_ : Nat) (j : Nat), n - j < n_ → (j ≤ i) → J mX11_placeIn 1 0 0 (nx (fun v u => u = h ∧ v = some (vi (nI (i + 1))))) 2 [some (vr (some la)), some (vi (nI n)), some (vi (nI (i + 1))), some (vi (nI j))] [] h := by
  intro n_
  induction n_ with
  | zero => intro j hlt; omega
  | succ n_ ih =>
    intro j hlt hinv
    refine j_iload_n dX11_placeIn_2 rfl ?_
    refine j_iload_n dX11_placeIn_3 rfl ?_
    refine j_icmp_ge 30 dX11_placeIn_4 (by decide) (fun c_4 => ?_) (fun c_4 => ?_)
    · exact absurd c_4 (by rw [nI_leI (by omega) (by omega)]; omega)
    · refine j_iload_n dX11_placeIn_7 rfl ?_
      refine j_aload_n dX11_placeIn_8 rfl ?_
      refine j_alen dX11_placeIn_9 (t := 1) k1 (by decide) ?_
      rw [k2]
      refine j_icmp_ge 30 dX11_placeIn_10 (by decide) (fun c_10 => ?_) (fun c_10 => ?_)
      · exact absurd c_10 (by rw [nI_leI (by omega) (by omega)]; omega)
      · refine j_aload_n dX11_placeIn_13 rfl ?_
        refine j_iload_n dX11_placeIn_14 rfl ?_
        refine j_iald j dX11_placeIn_15 k1 rfl (by rw [k2]; omega) (by rw [k2]; omega) ?_
        rw [hl j (by omega)]
        refine j_iload_n dX11_placeIn_16 rfl ?_
        refine j_icmp_ne 24 dX11_placeIn_17 (by decide) (fun c_17 => ?_) (fun c_17 => ?_)
        · have hlt2 : j < i := by
            have e : j ≠ i := fun e => c_17 (by rw [e])
            omega
          refine j_iinc dX11_placeIn_24 rfl ?_
          dsimp only [st1, st2, unL, List.set]
          refine j_goto 2 dX11_placeIn_27 (by decide) ?_
          refine j_lle (lv' := [some (vr (some la)), some (vi (nI n)), some (vi (nI (i + 1))), some (vi (nI (j + 1)))]) (by first | (simp [lle, nI_1]; done) | (simp [lle, nI_1]; rfl)) ?_
          exact ih (j + 1) (by omega) (by omega)
        · have e : j = i := by have e := Classical.not_not.mp c_17; rw [nI_eq (by omega) (by omega)] at e; omega
          subst e
          refine j_iload_n dX11_placeIn_20 rfl ?_
          refine j_iconst (v := 1) dX11_placeIn_21 (by decide) ?_
          refine j_iadd dX11_placeIn_22 ?_
          rw [nI_1]
          exact j_ireturn dX11_placeIn_23 rfl rfl (⟨rfl, rfl⟩)

set_option maxRecDepth 20000 in
theorem c_placeInE {h : Hp} {la n i : Nat} (k1 : hK h la = 15) (k2 : hN h la = n) (hn : n ≤ 32) (hl : ∀ j, j < n → hI h la j = nI (j + 1)) (hi : i < n) : Con mX11_placeIn 1 0 0 [vr (some la), vi (nI n), vi (nI (i + 1))] h (fun v u => u = h ∧ v = some (vi (nI (i + 1)))) := by
  refine con_of rfl (Nat.le_of_ble_eq_true rfl) (by decide) ?_
  show J mX11_placeIn 1 0 0 _ 0 [some (vr (some la)), some (vi (nI n)), some (vi (nI (i + 1))), none] [] h
  refine j_iconst (v := 0) dX11_placeIn_0 (by decide) ?_
  refine j_istore_n dX11_placeIn_1 (by decide) ?_
  dsimp only [st1, st2, unL, List.set]
  refine j_lle (lv' := [some (vr (some la)), some (vi (nI n)), some (vi (nI (i + 1))), some (vi (nI 0))]) (by first | (simp [lle, nI_1]; done) | (simp [lle, nI_1]; rfl)) ?_
  exact l_placeIn k1 k2 hn hl hi (n + 1) 0 (by omega) (by omega)

set_option maxRecDepth 20000 in
theorem l_same {h : Hp} {la n : Nat} (k1 : hK h la = 15) (k2 : hN h la = n) (hn : n ≤ 32) (hl : ∀ j, j < n → hI h la j = nI (j + 1)) : ∀ (n_ : Nat) (i : Nat), n - i < n_ → (i ≤ n) → J mX11_inSameOrder 2 0 0 (nx (fun v u => u = h ∧ v = some (vi 1))) 5 [some (vr (some la)), some (vr (some la)), some (vr (some la)), some (vi (nI i)), some (vi (nI i)), none] [] h := by
  intro n_
  induction n_ with
  | zero => intro i hlt; omega
  | succ n_ ih =>
    intro i hlt hinv
    refine j_iload dX11_inSameOrder_5 rfl ?_
    refine j_aload_n dX11_inSameOrder_7 rfl ?_
    refine j_alen dX11_inSameOrder_8 (t := 1) k1 (by decide) ?_
    rw [k2]
    refine j_icmp_ge 104 dX11_inSameOrder_9 (by decide) (fun c_9 => ?_) (fun c_9 => ?_)
    · refine j_iconst (v := 1) dX11_inSameOrder_104 (by decide) ?_
      exact j_ireturn dX11_inSameOrder_105 rfl rfl (⟨rfl, rfl⟩)
    · have hlt2 : i < n := by rw [nI_leI (by omega) (by omega)] at c_9; omega
      refine j_aload_n dX11_inSameOrder_12 rfl ?_
      refine j_iload dX11_inSameOrder_13 rfl ?_
      refine j_iald i dX11_inSameOrder_15 k1 rfl (by rw [k2]; exact hlt2) (by rw [k2]; omega) ?_
      rw [hl i hlt2]
      refine j_istore dX11_inSameOrder_16 (by decide) ?_
      dsimp only [st1, st2, unL, List.set]
      refine j_aload_n dX11_inSameOrder_18 rfl ?_
      refine j_aload_n dX11_inSameOrder_19 rfl ?_
      refine j_alen dX11_inSameOrder_20 (t := 1) k1 (by decide) ?_
      rw [k2]
      refine j_iload dX11_inSameOrder_21 rfl ?_
      refine j_callS3 dX11_inSameOrder_23 sl_X11_368 (c_placeInE k1 k2 hn hl hlt2) rfl (by decide) (by omega) (by omega) (Nat.le_of_ble_eq_true rfl) (fun v_23 u_23 p_23 => ?_)
      obtain ⟨e_23, rfl⟩ := p_23
      rw [e_23]
      clear e_23
      dsimp only [rs]
      refine j_if_eq 98 dX11_inSameOrder_26 (by decide) (fun c_26 => ?_) (fun c_26 => ?_)
      · exact absurd c_26 (nI_s0 (by omega))
      · refine j_aload_n dX11_inSameOrder_29 rfl ?_
        refine j_aload_n dX11_inSameOrder_30 rfl ?_
        refine j_alen dX11_inSameOrder_31 (t := 1) k1 (by decide) ?_
        rw [k2]
        refine j_iload dX11_inSameOrder_32 rfl ?_
        refine j_callS3 dX11_inSameOrder_34 sl_X11_368 (c_placeInE k1 k2 hn hl hlt2) rfl (by decide) (by omega) (by omega) (Nat.le_of_ble_eq_true rfl) (fun v_34 u_34 p_34 => ?_)
        obtain ⟨e_34, rfl⟩ := p_34
        rw [e_34]
        clear e_34
        dsimp only [rs]
        refine j_if_ne 43 dX11_inSameOrder_37 (by decide) (fun c_37 => ?_) (fun c_37 => ?_)
        · refine j_iload_n dX11_inSameOrder_43 rfl ?_
          refine j_aload_n dX11_inSameOrder_44 rfl ?_
          refine j_alen dX11_inSameOrder_45 (t := 1) k1 (by decide) ?_
          rw [k2]
          refine j_icmp_ge 79 dX11_inSameOrder_46 (by decide) (fun c_46 => ?_) (fun c_46 => ?_)
          · exact absurd c_46 (by rw [nI_leI (by omega) (by omega)]; omega)
          · refine j_aload_n dX11_inSameOrder_49 rfl ?_
            refine j_aload_n dX11_inSameOrder_50 rfl ?_
            refine j_alen dX11_inSameOrder_51 (t := 1) k1 (by decide) ?_
            rw [k2]
            refine j_aload_n dX11_inSameOrder_52 rfl ?_
            refine j_iload_n dX11_inSameOrder_53 rfl ?_
            refine j_iald i dX11_inSameOrder_54 k1 rfl (by rw [k2]; exact hlt2) (by rw [k2]; omega) ?_
            rw [hl i hlt2]
            refine j_callS3 dX11_inSameOrder_55 sl_X11_368 (c_placeInE k1 k2 hn hl hlt2) rfl (by decide) (by omega) (by omega) (Nat.le_of_ble_eq_true rfl) (fun v_55 u_55 p_55 => ?_)
            obtain ⟨e_55, rfl⟩ := p_55
            rw [e_55]
            clear e_55
            dsimp only [rs]
            refine j_if_eq 73 dX11_inSameOrder_58 (by decide) (fun c_58 => ?_) (fun c_58 => ?_)
            · exact absurd c_58 (nI_s0 (by omega))
            · refine j_aload_n dX11_inSameOrder_61 rfl ?_
              refine j_aload_n dX11_inSameOrder_62 rfl ?_
              refine j_alen dX11_inSameOrder_63 (t := 1) k1 (by decide) ?_
              rw [k2]
              refine j_aload_n dX11_inSameOrder_64 rfl ?_
              refine j_iload_n dX11_inSameOrder_65 rfl ?_
              refine j_iald i dX11_inSameOrder_66 k1 rfl (by rw [k2]; exact hlt2) (by rw [k2]; omega) ?_
              rw [hl i hlt2]
              refine j_callS3 dX11_inSameOrder_67 sl_X11_368 (c_placeInE k1 k2 hn hl hlt2) rfl (by decide) (by omega) (by omega) (Nat.le_of_ble_eq_true rfl) (fun v_67 u_67 p_67 => ?_)
              obtain ⟨e_67, rfl⟩ := p_67
              rw [e_67]
              clear e_67
              dsimp only [rs]
              refine j_if_ne 79 dX11_inSameOrder_70 (by decide) (fun c_70 => ?_) (fun c_70 => ?_)
              · refine j_iload_n dX11_inSameOrder_79 rfl ?_
                refine j_aload_n dX11_inSameOrder_80 rfl ?_
                refine j_alen dX11_inSameOrder_81 (t := 1) k1 (by decide) ?_
                rw [k2]
                refine j_icmp_ge 93 dX11_inSameOrder_82 (by decide) (fun c_82 => ?_) (fun c_82 => ?_)
                · exact absurd c_82 (by rw [nI_leI (by omega) (by omega)]; omega)
                · refine j_aload_n dX11_inSameOrder_85 rfl ?_
                  refine j_iload_n dX11_inSameOrder_86 rfl ?_
                  refine j_iald i dX11_inSameOrder_87 k1 rfl (by rw [k2]; exact hlt2) (by rw [k2]; omega) ?_
                  rw [hl i hlt2]
                  refine j_iload dX11_inSameOrder_88 rfl ?_
                  refine j_icmp_eq 95 dX11_inSameOrder_90 (by decide) (fun c_90 => ?_) (fun c_90 => ?_)
                  · refine j_iinc dX11_inSameOrder_95 rfl ?_
                    dsimp only [st1, st2, unL, List.set]
                    refine j_iinc dX11_inSameOrder_98 rfl ?_
                    dsimp only [st1, st2, unL, List.set]
                    refine j_goto 5 dX11_inSameOrder_101 (by decide) ?_
                    refine j_lle (lv' := [some (vr (some la)), some (vr (some la)), some (vr (some la)), some (vi (nI (i + 1))), some (vi (nI (i + 1))), none]) (by first | (simp [lle, nI_1]; done) | (simp [lle, nI_1]; rfl)) ?_
                    exact ih (i + 1) (by omega) (by omega)
                  · exact absurd rfl c_90
              · exact absurd (nI_s0 (by omega)) c_70
        · exact absurd (nI_s0 (by omega)) c_37

set_option maxRecDepth 20000 in
theorem c_sameE {h : Hp} {la n : Nat} (k1 : hK h la = 15) (k2 : hN h la = n) (hn : n ≤ 32) (hl : ∀ j, j < n → hI h la j = nI (j + 1)) : Con mX11_inSameOrder 2 0 0 [vr (some la), vr (some la), vr (some la)] h (fun v u => u = h ∧ v = some (vi 1)) := by
  refine con_of rfl (Nat.le_of_ble_eq_true rfl) (by decide) ?_
  show J mX11_inSameOrder 2 0 0 _ 0 [some (vr (some la)), some (vr (some la)), some (vr (some la)), none, none, none] [] h
  refine j_iconst (v := 0) dX11_inSameOrder_0 (by decide) ?_
  refine j_istore_n dX11_inSameOrder_1 (by decide) ?_
  dsimp only [st1, st2, unL, List.set]
  refine j_iconst (v := 0) dX11_inSameOrder_2 (by decide) ?_
  refine j_istore dX11_inSameOrder_3 (by decide) ?_
  dsimp only [st1, st2, unL, List.set]
  refine j_lle (lv' := [some (vr (some la)), some (vr (some la)), some (vr (some la)), some (vi (nI 0)), some (vi (nI 0)), none]) (by first | (simp [lle, nI_1]; done) | (simp [lle, nI_1]; rfl)) ?_
  exact l_same k1 k2 hn hl (n + 1) 0 (by omega) (by omega)

set_option maxRecDepth 20000 in
theorem l_noteOnly0 {h : Hp} {x a a2 ra ca xa xa2 : Nat} {v : Int32} (hs : Sh h a ra ca xa 8 6) (hs2 : Sh h a2 ra ca xa2 8 6) (hl : ∀ j, j < 8 → hI h ra j = nI (j + 1)) : ∀ (n_ : Nat) (i : Nat), 8 - i < n_ → (i ≤ 8) → J mX11_noteOnly 2 0 0 (nx (fun v u => u = h ∧ v = none)) 10 [some (vr (some x)), some (vi v), some (vi 0), some (vr (some a)), some (vr (some a2)), some (vr (some ra)), some (vi (nI i))] [] h := by
  intro n_
  induction n_ with
  | zero => intro i hlt; omega
  | succ n_ ih =>
    intro i hlt hinv
    refine j_iload dX11_noteOnly_10 rfl ?_
    refine j_aload dX11_noteOnly_12 rfl ?_
    refine j_alen dX11_noteOnly_14 (t := 1) hs.2.2.2.2.1 (by decide) ?_
    rw [hs.2.2.2.2.2.1]
    refine j_icmp_ge 67 dX11_noteOnly_15 (by decide) (fun c_15 => ?_) (fun c_15 => ?_)
    · exact j_return dX11_noteOnly_67 rfl (⟨rfl, rfl⟩)
    · have hlt2 : i < 8 := by rw [nI_leI (by omega) (by omega)] at c_15; omega
      refine j_aload dX11_noteOnly_18 rfl ?_
      refine j_iload_n dX11_noteOnly_20 rfl ?_
      refine j_aload dX11_noteOnly_21 rfl ?_
      refine j_iload dX11_noteOnly_23 rfl ?_
      refine j_iald i dX11_noteOnly_25 hs.2.2.2.2.1 rfl (by rw [hs.2.2.2.2.2.1]; exact hlt2) (by rw [hs.2.2.2.2.2.1]; decide) ?_
      rw [hl i hlt2]
      refine j_callV2 dX11_noteOnly_26 vl_X11_299 (c_placeOf0 _ hs2) hs2.1 rfl (by decide) (by omega) (by omega) (Nat.le_of_ble_eq_true rfl) (fun v_26 u_26 p_26 => ?_)
      obtain ⟨e_26, rfl⟩ := p_26
      rw [e_26]
      clear e_26
      dsimp only [rs]
      refine j_if_ne 61 dX11_noteOnly_29 (by decide) (fun c_29 => ?_) (fun c_29 => ?_)
      · refine j_iinc dX11_noteOnly_61 rfl ?_
        dsimp only [st1, st2, unL, List.set]
        refine j_goto 10 dX11_noteOnly_64 (by decide) ?_
        refine j_lle (lv' := [some (vr (some x)), some (vi v), some (vi 0), some (vr (some a)), some (vr (some a2)), some (vr (some ra)), some (vi (nI (i + 1)))]) (by first | (simp [lle, nI_1]; done) | (simp [lle, nI_1]; rfl)) ?_
        exact ih (i + 1) (by omega) (by omega)
      · exact absurd (by rw [show hN h ra = 8 from hs2.2.2.2.2.2.1, pl1_l (by decide) hl hlt2]; exact nI_s0 (by omega)) c_29

set_option maxRecDepth 20000 in
theorem c_noteOnly0 {h : Hp} {x a a2 ra ca xa xa2 : Nat} {v : Int32} (hs : Sh h a ra ca xa 8 6) (hs2 : Sh h a2 ra ca xa2 8 6) (hl : ∀ j, j < 8 → hI h ra j = nI (j + 1)) : Con mX11_noteOnly 2 0 0 [vr (some x), vi v, vi 0, vr (some a), vr (some a2)] h (fun v u => u = h ∧ v = none) := by
  refine con_of rfl (Nat.le_of_ble_eq_true rfl) (by decide) ?_
  show J mX11_noteOnly 2 0 0 _ 0 [some (vr (some x)), some (vi v), some (vi 0), some (vr (some a)), some (vr (some a2)), none, none] [] h
  refine j_aload_n dX11_noteOnly_0 rfl ?_
  refine j_iload_n dX11_noteOnly_1 rfl ?_
  refine j_callV1 dX11_noteOnly_2 vl_X11_160 (c_line0 hs) hs.1 rfl (by decide) (by omega) (by omega) (Nat.le_of_ble_eq_true rfl) (fun v_2 u_2 p_2 => ?_)
  obtain ⟨e_2, rfl⟩ := p_2
  rw [e_2]
  clear e_2
  dsimp only [rs]
  refine j_astore dX11_noteOnly_5 (by decide) ?_
  dsimp only [st1, st2, unL, List.set]
  refine j_iconst (v := 0) dX11_noteOnly_7 (by decide) ?_
  refine j_istore dX11_noteOnly_8 (by decide) ?_
  dsimp only [st1, st2, unL, List.set]
  refine j_lle (lv' := [some (vr (some x)), some (vi v), some (vi 0), some (vr (some a)), some (vr (some a2)), some (vr (some ra)), some (vi (nI 0))]) (by first | (simp [lle, nI_1]; done) | (simp [lle, nI_1]; rfl)) ?_
  exact l_noteOnly0 hs hs2 hl 9 0 (by omega) (by omega)

set_option maxRecDepth 20000 in
theorem l_noteOnly1 {h : Hp} {x a a2 ra ca xa xa2 : Nat} {v : Int32} (hs : Sh h a ra ca xa 8 6) (hs2 : Sh h a2 ra ca xa2 8 6) (hl : ∀ j, j < 6 → hI h ca j = nI (j + 1)) : ∀ (n_ : Nat) (i : Nat), 6 - i < n_ → (i ≤ 6) → J mX11_noteOnly 2 0 0 (nx (fun v u => u = h ∧ v = none)) 10 [some (vr (some x)), some (vi v), some (vi 1), some (vr (some a)), some (vr (some a2)), some (vr (some ca)), some (vi (nI i))] [] h := by
  intro n_
  induction n_ with
  | zero => intro i hlt; omega
  | succ n_ ih =>
    intro i hlt hinv
    refine j_iload dX11_noteOnly_10 rfl ?_
    refine j_aload dX11_noteOnly_12 rfl ?_
    refine j_alen dX11_noteOnly_14 (t := 1) hs.2.2.2.2.2.2.1 (by decide) ?_
    rw [hs.2.2.2.2.2.2.2.1]
    refine j_icmp_ge 67 dX11_noteOnly_15 (by decide) (fun c_15 => ?_) (fun c_15 => ?_)
    · exact j_return dX11_noteOnly_67 rfl (⟨rfl, rfl⟩)
    · have hlt2 : i < 6 := by rw [nI_leI (by omega) (by omega)] at c_15; omega
      refine j_aload dX11_noteOnly_18 rfl ?_
      refine j_iload_n dX11_noteOnly_20 rfl ?_
      refine j_aload dX11_noteOnly_21 rfl ?_
      refine j_iload dX11_noteOnly_23 rfl ?_
      refine j_iald i dX11_noteOnly_25 hs.2.2.2.2.2.2.1 rfl (by rw [hs.2.2.2.2.2.2.2.1]; exact hlt2) (by rw [hs.2.2.2.2.2.2.2.1]; decide) ?_
      rw [hl i hlt2]
      refine j_callV2 dX11_noteOnly_26 vl_X11_299 (c_placeOf1 _ hs2) hs2.1 rfl (by decide) (by omega) (by omega) (Nat.le_of_ble_eq_true rfl) (fun v_26 u_26 p_26 => ?_)
      obtain ⟨e_26, rfl⟩ := p_26
      rw [e_26]
      clear e_26
      dsimp only [rs]
      refine j_if_ne 61 dX11_noteOnly_29 (by decide) (fun c_29 => ?_) (fun c_29 => ?_)
      · refine j_iinc dX11_noteOnly_61 rfl ?_
        dsimp only [st1, st2, unL, List.set]
        refine j_goto 10 dX11_noteOnly_64 (by decide) ?_
        refine j_lle (lv' := [some (vr (some x)), some (vi v), some (vi 1), some (vr (some a)), some (vr (some a2)), some (vr (some ca)), some (vi (nI (i + 1)))]) (by first | (simp [lle, nI_1]; done) | (simp [lle, nI_1]; rfl)) ?_
        exact ih (i + 1) (by omega) (by omega)
      · exact absurd (by rw [show hN h ca = 6 from hs2.2.2.2.2.2.2.2.1, pl1_l (by decide) hl hlt2]; exact nI_s0 (by omega)) c_29

set_option maxRecDepth 20000 in
theorem c_noteOnly1 {h : Hp} {x a a2 ra ca xa xa2 : Nat} {v : Int32} (hs : Sh h a ra ca xa 8 6) (hs2 : Sh h a2 ra ca xa2 8 6) (hl : ∀ j, j < 6 → hI h ca j = nI (j + 1)) : Con mX11_noteOnly 2 0 0 [vr (some x), vi v, vi 1, vr (some a), vr (some a2)] h (fun v u => u = h ∧ v = none) := by
  refine con_of rfl (Nat.le_of_ble_eq_true rfl) (by decide) ?_
  show J mX11_noteOnly 2 0 0 _ 0 [some (vr (some x)), some (vi v), some (vi 1), some (vr (some a)), some (vr (some a2)), none, none] [] h
  refine j_aload_n dX11_noteOnly_0 rfl ?_
  refine j_iload_n dX11_noteOnly_1 rfl ?_
  refine j_callV1 dX11_noteOnly_2 vl_X11_160 (c_line1 hs) hs.1 rfl (by decide) (by omega) (by omega) (Nat.le_of_ble_eq_true rfl) (fun v_2 u_2 p_2 => ?_)
  obtain ⟨e_2, rfl⟩ := p_2
  rw [e_2]
  clear e_2
  dsimp only [rs]
  refine j_astore dX11_noteOnly_5 (by decide) ?_
  dsimp only [st1, st2, unL, List.set]
  refine j_iconst (v := 0) dX11_noteOnly_7 (by decide) ?_
  refine j_istore dX11_noteOnly_8 (by decide) ?_
  dsimp only [st1, st2, unL, List.set]
  refine j_lle (lv' := [some (vr (some x)), some (vi v), some (vi 1), some (vr (some a)), some (vr (some a2)), some (vr (some ca)), some (vi (nI 0))]) (by first | (simp [lle, nI_1]; done) | (simp [lle, nI_1]; rfl)) ?_
  exact l_noteOnly1 hs hs2 hl 7 0 (by omega) (by omega)

set_option maxRecDepth 20000 in
theorem l_nc2 {h : Hp} {x a a2 ra ca xa xa2 : Nat} {i : Nat} (hs : Sh h a ra ca xa 8 6) (hs2 : Sh h a2 ra ca xa2 8 6) (hr : ∀ j, j < 8 → hI h ra j = nI (j + 1)) (hc : ∀ j, j < 6 → hI h ca j = nI (j + 1)) (hz : ∀ j, j < 48 → hO h xa j = none) (hz2 : ∀ j, j < 48 → hO h xa2 j = none) (hi : i < 8) (fin : J mX11_noteCells 3 0 0 (nx (fun v u => u = h ∧ v = none)) 102 [some (vr (some x)), some (vr (some a)), some (vr (some a2)), some (vi (nI (i + 1))), none, none, none] [] h) : ∀ (n_ : Nat) (j : Nat), 6 - j < n_ → (j ≤ 6) → J mX11_noteCells 3 0 0 (nx (fun v u => u = h ∧ v = none)) 14 [some (vr (some x)), some (vr (some a)), some (vr (some a2)), some (vi (nI (i + 1))), some (vi (nI (j + 1))), none, none] [] h := by
  intro n_
  induction n_ with
  | zero => intro j hlt; omega
  | succ n_ ih =>
    intro j hlt hinv
    refine j_iload dX11_noteCells_14 rfl ?_
    refine j_aload_n dX11_noteCells_16 rfl ?_
    refine j_getR dX11_noteCells_17 fl_X11_197 rfl hs2.1 hs2.2.2.1 ?_
    refine j_alen dX11_noteCells_20 (t := 1) hs2.2.2.2.2.2.2.1 (by decide) ?_
    rw [hs2.2.2.2.2.2.2.2.1]
    refine j_icmp_gt 102 dX11_noteCells_21 (by decide) (fun c_21 => ?_) (fun c_21 => ?_)
    · exact j_lle (by simp [lle]) fin
    · have hlt2 : j < 6 := by rw [nI_ltI (by omega) (by omega)] at c_21; omega
      refine j_aload_n dX11_noteCells_24 rfl ?_
      refine j_iconst (v := 0) dX11_noteCells_25 (by decide) ?_
      refine j_aload_n dX11_noteCells_26 rfl ?_
      refine j_getR dX11_noteCells_27 fl_X11_190 rfl hs2.1 hs2.2.1 ?_
      refine j_iload_n dX11_noteCells_30 rfl ?_
      refine j_iconst (v := 1) dX11_noteCells_31 (by decide) ?_
      refine j_isub dX11_noteCells_32 ?_
      refine j_iald i dX11_noteCells_33 hs2.2.2.2.2.1 (by rw [nI_pred]) (by rw [hs2.2.2.2.2.2.1]; exact hi) (by rw [hs2.2.2.2.2.2.1]; decide) ?_
      rw [hr i hi]
      refine j_callV2 dX11_noteCells_34 vl_X11_299 (c_placeOf0 _ hs) (by first | exact hs.1 | exact hs2.1) rfl (by decide) (by omega) (by omega) (Nat.le_of_ble_eq_true rfl) (fun v_34 u_34 p_34 => ?_)
      obtain ⟨e_34, rfl⟩ := p_34
      rw [e_34]
      clear e_34
      dsimp only [rs]
      rw [show hN h ra = 8 from hs.2.2.2.2.2.1, pl1_l (by decide) hr hi]
      refine j_istore dX11_noteCells_37 (by decide) ?_
      dsimp only [st1, st2, unL, List.set]
      refine j_aload_n dX11_noteCells_39 rfl ?_
      refine j_iconst (v := 1) dX11_noteCells_40 (by decide) ?_
      refine j_aload_n dX11_noteCells_41 rfl ?_
      refine j_getR dX11_noteCells_42 fl_X11_197 rfl hs2.1 hs2.2.2.1 ?_
      refine j_iload dX11_noteCells_45 rfl ?_
      refine j_iconst (v := 1) dX11_noteCells_47 (by decide) ?_
      refine j_isub dX11_noteCells_48 ?_
      refine j_iald j dX11_noteCells_49 hs2.2.2.2.2.2.2.1 (by rw [nI_pred]) (by rw [hs2.2.2.2.2.2.2.2.1]; exact hlt2) (by rw [hs2.2.2.2.2.2.2.2.1]; decide) ?_
      rw [hc j hlt2]
      refine j_callV2 dX11_noteCells_50 vl_X11_299 (c_placeOf1 _ hs) (by first | exact hs.1 | exact hs2.1) rfl (by decide) (by omega) (by omega) (Nat.le_of_ble_eq_true rfl) (fun v_50 u_50 p_50 => ?_)
      obtain ⟨e_50, rfl⟩ := p_50
      rw [e_50]
      clear e_50
      dsimp only [rs]
      rw [show hN h ca = 6 from hs.2.2.2.2.2.2.2.1, pl1_l (by decide) hc hlt2]
      refine j_istore dX11_noteCells_53 (by decide) ?_
      dsimp only [st1, st2, unL, List.set]
      refine j_aload_n dX11_noteCells_55 rfl ?_
      refine j_iload dX11_noteCells_56 rfl ?_
      refine j_iload dX11_noteCells_58 rfl ?_
      refine j_callV2 dX11_noteCells_60 vl_X11_113 (c_has _ _ hs) (by first | exact hs.1 | exact hs2.1) rfl (by decide) (by omega) (by omega) (Nat.le_of_ble_eq_true rfl) (fun v_60 u_60 p_60 => ?_)
      obtain ⟨e_60, rfl⟩ := p_60
      rw [e_60]
      clear e_60
      dsimp only [rs]
      refine j_if_eq 96 dX11_noteCells_63 (by decide) (fun c_63 => ?_) (fun c_63 => ?_)
      · exact absurd c_63 (fun e => b2_0.mp e (inSh_n (by decide) (by decide) hi hlt2))
      · refine j_aload_n dX11_noteCells_66 rfl ?_
        refine j_iload dX11_noteCells_67 rfl ?_
        refine j_iload dX11_noteCells_69 rfl ?_
        refine j_callV2 dX11_noteCells_71 vl_X11_152 (c_at i j hi hlt2 hs) (by first | exact hs.1 | exact hs2.1) rfl (by decide) (by omega) (by omega) (Nat.le_of_ble_eq_true rfl) (fun v_71 u_71 p_71 => ?_)
        obtain ⟨e_71, rfl⟩ := p_71
        rw [e_71]
        clear e_71
        dsimp only [rs]
        rw [hz (i * 6 + j) (by omega)]
        refine j_aload_n dX11_noteCells_74 rfl ?_
        refine j_iload_n dX11_noteCells_75 rfl ?_
        refine j_iload dX11_noteCells_76 rfl ?_
        refine j_callV2 dX11_noteCells_78 vl_X11_152 (c_at i j hi hlt2 hs2) (by first | exact hs.1 | exact hs2.1) rfl (by decide) (by omega) (by omega) (Nat.le_of_ble_eq_true rfl) (fun v_78 u_78 p_78 => ?_)
        obtain ⟨e_78, rfl⟩ := p_78
        rw [e_78]
        clear e_78
        dsimp only [rs]
        rw [hz2 (i * 6 + j) (by omega)]
        refine j_callS2 dX11_noteCells_81 sl_X11_443 c_alikeN rfl (by decide) (by omega) (by omega) (Nat.le_of_ble_eq_true rfl) (fun v_81 u_81 p_81 => ?_)
        obtain ⟨e_81, rfl⟩ := p_81
        rw [e_81]
        clear e_81
        dsimp only [rs]
        refine j_if_ne 96 dX11_noteCells_84 (by decide) (fun c_84 => ?_) (fun c_84 => ?_)
        · refine j_iinc dX11_noteCells_96 rfl ?_
          dsimp only [st1, st2, unL, List.set]
          refine j_goto 14 dX11_noteCells_99 (by decide) ?_
          refine j_lle (lv' := [some (vr (some x)), some (vr (some a)), some (vr (some a2)), some (vi (nI (i + 1))), some (vi (nI (j + 1 + 1))), none, none]) (by first | (simp [lle, nI_1]; done) | (simp [lle, nI_1]; rfl)) ?_
          exact ih (j + 1) (by omega) (by omega)
        · exact absurd (by decide) c_84

set_option maxRecDepth 20000 in
theorem l_nc1 {h : Hp} {x a a2 ra ca xa xa2 : Nat} (hs : Sh h a ra ca xa 8 6) (hs2 : Sh h a2 ra ca xa2 8 6) (hr : ∀ j, j < 8 → hI h ra j = nI (j + 1)) (hc : ∀ j, j < 6 → hI h ca j = nI (j + 1)) (hz : ∀ j, j < 48 → hO h xa j = none) (hz2 : ∀ j, j < 48 → hO h xa2 j = none) : ∀ (n_ : Nat) (i : Nat), 8 - i < n_ → (i ≤ 8) → J mX11_noteCells 3 0 0 (nx (fun v u => u = h ∧ v = none)) 2 [some (vr (some x)), some (vr (some a)), some (vr (some a2)), some (vi (nI (i + 1))), none, none, none] [] h := by
  intro n_
  induction n_ with
  | zero => intro i hlt; omega
  | succ n_ ih =>
    intro i hlt hinv
    refine j_iload_n dX11_noteCells_2 rfl ?_
    refine j_aload_n dX11_noteCells_3 rfl ?_
    refine j_getR dX11_noteCells_4 fl_X11_190 rfl hs2.1 hs2.2.1 ?_
    refine j_alen dX11_noteCells_7 (t := 1) hs2.2.2.2.2.1 (by decide) ?_
    rw [hs2.2.2.2.2.2.1]
    refine j_icmp_gt 108 dX11_noteCells_8 (by decide) (fun c_8 => ?_) (fun c_8 => ?_)
    · exact j_return dX11_noteCells_108 rfl (⟨rfl, rfl⟩)
    · have hlt2 : i < 8 := by rw [nI_ltI (by omega) (by omega)] at c_8; omega
      refine j_iconst (v := 1) dX11_noteCells_11 (by decide) ?_
      refine j_istore dX11_noteCells_12 (by decide) ?_
      dsimp only [st1, st2, unL, List.set]
      refine j_lle (lv' := [some (vr (some x)), some (vr (some a)), some (vr (some a2)), some (vi (nI (i + 1))), some (vi (nI (0 + 1))), none, none]) (by first | (simp [lle, nI_1]; done) | (simp [lle, nI_1]; rfl)) ?_
      refine l_nc2 hs hs2 hr hc hz hz2 hlt2 ?_ 7 0 (by omega) (by omega)
      refine j_iinc dX11_noteCells_102 rfl ?_
      dsimp only [st1, st2, unL, List.set]
      refine j_goto 2 dX11_noteCells_105 (by decide) ?_
      refine j_lle (lv' := [some (vr (some x)), some (vr (some a)), some (vr (some a2)), some (vi (nI (i + 1 + 1))), none, none, none]) (by first | (simp [lle, nI_1]; done) | (simp [lle, nI_1]; rfl)) ?_
      exact ih (i + 1) (by omega) (by omega)

set_option maxRecDepth 20000 in
theorem c_noteCells0 {h : Hp} {x a a2 ra ca xa xa2 : Nat} (hs : Sh h a ra ca xa 8 6) (hs2 : Sh h a2 ra ca xa2 8 6) (hr : ∀ j, j < 8 → hI h ra j = nI (j + 1)) (hc : ∀ j, j < 6 → hI h ca j = nI (j + 1)) (hz : ∀ j, j < 48 → hO h xa j = none) (hz2 : ∀ j, j < 48 → hO h xa2 j = none) : Con mX11_noteCells 3 0 0 [vr (some x), vr (some a), vr (some a2)] h (fun v u => u = h ∧ v = none) := by
  refine con_of rfl (Nat.le_of_ble_eq_true rfl) (by decide) ?_
  show J mX11_noteCells 3 0 0 _ 0 [some (vr (some x)), some (vr (some a)), some (vr (some a2)), none, none, none, none] [] h
  refine j_iconst (v := 1) dX11_noteCells_0 (by decide) ?_
  refine j_istore_n dX11_noteCells_1 (by decide) ?_
  dsimp only [st1, st2, unL, List.set]
  refine j_lle (lv' := [some (vr (some x)), some (vr (some a)), some (vr (some a2)), some (vi (nI (0 + 1))), none, none, none]) (by first | (simp [lle, nI_1]; done) | (simp [lle, nI_1]; rfl)) ?_
  exact l_nc1 hs hs2 hr hc hz hz2 9 0 (by omega) (by omega)

theorem shF_in {b : Nat → Nat} {w a : Nat} {x : Int32} (e : shF b w x = some a) : -1 ≤ x ∧ x ≤ 0 := by
  rw [shF] at e
  split at e
  · next q => subst q; decide
  · split at e
    · next q => subst q; decide
    · cases e
theorem fcR {h : Hp} {b : Nat → Nat} {w xw : Nat} (fc : FC h b w xw) : ∀ j, j < 8 → hI h (b 36) j = nI (j + 1) := fc.2.2.2.2.2.1
theorem fcC {h : Hp} {b : Nat → Nat} {w xw : Nat} (fc : FC h b w xw) : ∀ j, j < 6 → hI h (b 37) j = nI (j + 1) := fc.2.2.2.2.2.2.1
set_option maxRecDepth 20000 in
theorem d_diff {h : Hp} {b : Nat → Nat} {w xw : Nat} (x y : Int32) (fc : FC h b w xw) : ConX mX11_diff 6 1 6 [vr (some (b 0)), vi x, vi y] h (px h b w xw ["java/util/NoSuchElementException"] (if (-1 ≤ x ∧ x ≤ 0) ∧ (-1 ≤ y ∧ y ≤ 0) then 0 else 1) (0)) := by
  refine con_ofX rfl (Nat.le_of_ble_eq_true rfl) (by decide) (by decide) ?_
  show J mX11_diff 6 1 6 _ 0 [some (vr (some (b 0))), some (vi x), some (vi y), none, none] [] h
  refine j_aload_n dX11_diff_0 rfl ?_
  refine j_iload_n dX11_diff_1 rfl ?_
  refine j_callV1 dX11_diff_2 vl_X11_312 (d_sheetOf x fc) (fcK fc 0 rfl rfl) rfl (by decide) (by omega) (by omega) (Nat.le_of_ble_eq_true rfl) (fun v_2 u_2 p_2 => ?_)
  obtain ⟨e_, rfl⟩ := p_2
  rw [e_]
  clear e_
  rcases hsf : shF b w x with _ | a
  · dsimp only [rs]
    refine j_astore_n dX11_diff_5 (by decide) ?_
    dsimp only [st1, st2, unL, List.set]
    refine j_aload_n dX11_diff_6 rfl ?_
    refine j_iload_n dX11_diff_7 rfl ?_
    refine j_callV1 dX11_diff_8 vl_X11_312 (d_sheetOf y fc) (fcK fc 0 rfl rfl) rfl (by decide) (by omega) (by omega) (Nat.le_of_ble_eq_true rfl) (fun v_8 u_8 p_8 => ?_)
    obtain ⟨e_8, rfl⟩ := p_8
    rw [e_8]
    clear e_8
    dsimp only [rs]
    refine j_astore dX11_diff_11 (by decide) ?_
    dsimp only [st1, st2, unL, List.set]
    refine j_aload_n dX11_diff_13 rfl ?_
    refine j_ifnull 22 dX11_diff_14 (by decide) (fun c_14 => ?_) (fun c_14 => ?_)
    · exact j_throw (E := "java/util/NoSuchElementException") ⟨223, 225, by decide, dX11_diff_22, dX11_diff_25, dX11_diff_26, dX11_diff_29⟩ (by omega) (by omega) (Nat.le_of_ble_eq_true rfl) ⟨Fr_rf, by rw [if_neg (fun k => shF_N hsf k.1)]; decide, by rw [if_neg (fun k => shF_N hsf k.1)]; rfl⟩
    · exact absurd rfl c_14
  obtain ⟨xa, hs, hz, -, hx01⟩ := shF_S fc hsf
  dsimp only [rs]
  refine j_astore_n dX11_diff_5 (by decide) ?_
  dsimp only [st1, st2, unL, List.set]
  refine j_aload_n dX11_diff_6 rfl ?_
  refine j_iload_n dX11_diff_7 rfl ?_
  refine j_callV1 dX11_diff_8 vl_X11_312 (d_sheetOf y fc) (fcK fc 0 rfl rfl) rfl (by decide) (by omega) (by omega) (Nat.le_of_ble_eq_true rfl) (fun v_8 u_8 p_8 => ?_)
  obtain ⟨e_, rfl⟩ := p_8
  rw [e_]
  clear e_
  rcases hsg : shF b w y with _ | a2
  · dsimp only [rs]
    refine j_astore dX11_diff_11 (by decide) ?_
    dsimp only [st1, st2, unL, List.set]
    refine j_aload_n dX11_diff_13 rfl ?_
    refine j_ifnull 22 dX11_diff_14 (by decide) (fun c_14 => ?_) (fun c_14 => ?_)
    · exact absurd c_14 (fun e => by cases e)
    · refine j_aload dX11_diff_17 rfl ?_
      refine j_ifnonnull 30 dX11_diff_19 (by decide) (fun c_19 => ?_) (fun c_19 => ?_)
      · exact absurd c_19 (fun e => e rfl)
      · exact j_throw (E := "java/util/NoSuchElementException") ⟨223, 225, by decide, dX11_diff_22, dX11_diff_25, dX11_diff_26, dX11_diff_29⟩ (by omega) (by omega) (Nat.le_of_ble_eq_true rfl) ⟨Fr_rf, by rw [if_neg (fun k => shF_N hsg k.2)]; decide, by rw [if_neg (fun k => shF_N hsg k.2)]; rfl⟩
  obtain ⟨xa2, hs2, hz2, -, hy01⟩ := shF_S fc hsg
  dsimp only [rs]
  refine j_astore dX11_diff_11 (by decide) ?_
  dsimp only [st1, st2, unL, List.set]
  refine j_aload_n dX11_diff_13 rfl ?_
  refine j_ifnull 22 dX11_diff_14 (by decide) (fun c_14 => ?_) (fun c_14 => ?_)
  · exact absurd c_14 (fun e => by cases e)
  · refine j_aload dX11_diff_17 rfl ?_
    refine j_ifnonnull 30 dX11_diff_19 (by decide) (fun c_19 => ?_) (fun c_19 => ?_)
    · refine j_aload_n dX11_diff_30 rfl ?_
      refine j_iconst (v := 0) dX11_diff_31 (by decide) ?_
      refine j_putI dX11_diff_32 fl_X11_315 rfl rfl rfl (fcK fc 0 rfl rfl) ?_
      rw [pI_same (fcI fc 0 10 0 (by decide))]
      refine j_aload_n dX11_diff_35 rfl ?_
      refine j_iconst (v := 1) dX11_diff_36 (by decide) ?_
      refine j_iconst (v := 0) dX11_diff_37 (by decide) ?_
      refine j_aload_n dX11_diff_38 rfl ?_
      refine j_aload dX11_diff_39 rfl ?_
      refine j_callV4 dX11_diff_41 vl_X11_318 (c_noteOnly0 hs hs2 (fcR fc)) (fcK fc 0 rfl rfl) rfl (by decide) (by omega) (by omega) (Nat.le_of_ble_eq_true rfl) (fun v_41 u_41 p_41 => ?_)
      obtain ⟨e_41, rfl⟩ := p_41
      rw [e_41]
      clear e_41
      dsimp only [rs]
      refine j_aload_n dX11_diff_44 rfl ?_
      refine j_iconst (v := 2) dX11_diff_45 (by decide) ?_
      refine j_iconst (v := 0) dX11_diff_46 (by decide) ?_
      refine j_aload dX11_diff_47 rfl ?_
      refine j_aload_n dX11_diff_49 rfl ?_
      refine j_callV4 dX11_diff_50 vl_X11_318 (c_noteOnly0 hs2 hs (fcR fc)) (fcK fc 0 rfl rfl) rfl (by decide) (by omega) (by omega) (Nat.le_of_ble_eq_true rfl) (fun v_50 u_50 p_50 => ?_)
      obtain ⟨e_50, rfl⟩ := p_50
      rw [e_50]
      clear e_50
      dsimp only [rs]
      refine j_aload_n dX11_diff_53 rfl ?_
      refine j_iconst (v := 3) dX11_diff_54 (by decide) ?_
      refine j_iconst (v := 1) dX11_diff_55 (by decide) ?_
      refine j_aload_n dX11_diff_56 rfl ?_
      refine j_aload dX11_diff_57 rfl ?_
      refine j_callV4 dX11_diff_59 vl_X11_318 (c_noteOnly1 hs hs2 (fcC fc)) (fcK fc 0 rfl rfl) rfl (by decide) (by omega) (by omega) (Nat.le_of_ble_eq_true rfl) (fun v_59 u_59 p_59 => ?_)
      obtain ⟨e_59, rfl⟩ := p_59
      rw [e_59]
      clear e_59
      dsimp only [rs]
      refine j_aload_n dX11_diff_62 rfl ?_
      refine j_iconst (v := 4) dX11_diff_63 (by decide) ?_
      refine j_iconst (v := 1) dX11_diff_64 (by decide) ?_
      refine j_aload dX11_diff_65 rfl ?_
      refine j_aload_n dX11_diff_67 rfl ?_
      refine j_callV4 dX11_diff_68 vl_X11_318 (c_noteOnly1 hs2 hs (fcC fc)) (fcK fc 0 rfl rfl) rfl (by decide) (by omega) (by omega) (Nat.le_of_ble_eq_true rfl) (fun v_68 u_68 p_68 => ?_)
      obtain ⟨e_68, rfl⟩ := p_68
      rw [e_68]
      clear e_68
      dsimp only [rs]
      refine j_aload_n dX11_diff_71 rfl ?_
      refine j_getR dX11_diff_72 fl_X11_190 rfl hs.1 hs.2.1 ?_
      refine j_aload dX11_diff_75 rfl ?_
      refine j_getR dX11_diff_77 fl_X11_190 rfl hs2.1 hs2.2.1 ?_
      refine j_aload dX11_diff_80 rfl ?_
      refine j_getR dX11_diff_82 fl_X11_190 rfl hs2.1 hs2.2.1 ?_
      refine j_callS3 dX11_diff_85 sl_X11_322 (c_sameE (fcK fc 36 rfl rfl) (fcN fc 36 (c := 8) rfl rfl) (by decide) (fcR fc)) rfl (by decide) (by omega) (by omega) (Nat.le_of_ble_eq_true rfl) (fun v_85 u_85 p_85 => ?_)
      obtain ⟨e_85, rfl⟩ := p_85
      rw [e_85]
      clear e_85
      dsimp only [rs]
      refine j_if_ne 98 dX11_diff_88 (by decide) (fun c_88 => ?_) (fun c_88 => ?_)
      · refine j_aload_n dX11_diff_98 rfl ?_
        refine j_getR dX11_diff_99 fl_X11_197 rfl hs.1 hs.2.2.1 ?_
        refine j_aload dX11_diff_102 rfl ?_
        refine j_getR dX11_diff_104 fl_X11_197 rfl hs2.1 hs2.2.2.1 ?_
        refine j_aload dX11_diff_107 rfl ?_
        refine j_getR dX11_diff_109 fl_X11_197 rfl hs2.1 hs2.2.2.1 ?_
        refine j_callS3 dX11_diff_112 sl_X11_322 (c_sameE (fcK fc 37 rfl rfl) (fcN fc 37 (c := 6) rfl rfl) (by decide) (fcC fc)) rfl (by decide) (by omega) (by omega) (Nat.le_of_ble_eq_true rfl) (fun v_112 u_112 p_112 => ?_)
        obtain ⟨e_112, rfl⟩ := p_112
        rw [e_112]
        clear e_112
        dsimp only [rs]
        refine j_if_ne 126 dX11_diff_115 (by decide) (fun c_115 => ?_) (fun c_115 => ?_)
        · refine j_aload_n dX11_diff_126 rfl ?_
          refine j_aload_n dX11_diff_127 rfl ?_
          refine j_aload dX11_diff_128 rfl ?_
          refine j_callV2 dX11_diff_130 vl_X11_330 (c_noteCells0 hs hs2 (fcR fc) (fcC fc) hz hz2) (fcK fc 0 rfl rfl) rfl (by decide) (by omega) (by omega) (Nat.le_of_ble_eq_true rfl) (fun v_130 u_130 p_130 => ?_)
          obtain ⟨e_130, rfl⟩ := p_130
          rw [e_130]
          clear e_130
          dsimp only [rs]
          refine j_aload_n dX11_diff_133 rfl ?_
          refine j_getI dX11_diff_134 fl_X11_315 rfl (fcK fc 0 rfl rfl) ?_
          rw [fcI fc 0 10 (0) (by decide)]
          exact j_ireturn dX11_diff_137 rfl rfl ⟨Fr_rf, if_pos ⟨shF_in hsf, shF_in hsg⟩, rfl⟩
        · exact absurd (by decide) c_115
      · exact absurd (by decide) c_88
    · exact absurd c_19 (fun e => by cases e)

