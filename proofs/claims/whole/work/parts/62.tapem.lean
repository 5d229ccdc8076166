/-! ===== in general: the tape of the reference; both ===== -/
def fw (a b c d e : Int32) (k : Nat) : Int32 := if k < 4 then a else if k < 8 then b else if k < 12 then c else if k < 16 then d else e
def fb (a b c d e : Int32) (k : Nat) : Int32 := fw a b c d e k >>> ((24 - 8 * (nI k &&& 3)) &&& 31) &&& 255
def fdF (f : Nat → Int32) (m : Nat) (a b c d e : Int32) (n : Nat) : Nat → Int32 := fun j => if m ≤ j ∧ j < m + n then fb a b c d e (j - m) else f j
theorem fdF_s {f : Nat → Int32} {m : Nat} {a b c d e v : Int32} {i : Nat} (hv : v = fb a b c d e i) : upd (fdF f m a b c d e i) (m + i) v = fdF f m a b c d e (i + 1) := by
  funext j
  by_cases q : j = m + i
  · subst q
    have q : m ≤ m + i ∧ m + i < m + (i + 1) := by omega
    have e : m + i - m = i := by omega
    simp [upd, fdF, q, e, hv]
  · simp only [upd, if_neg q, fdF]
    by_cases z : m ≤ j ∧ j < m + i
    · rw [if_pos z, if_pos (show m ≤ j ∧ j < m + (i + 1) by omega)]
    · rw [if_neg z, if_neg (show ¬ (m ≤ j ∧ j < m + (i + 1)) by omega)]
theorem fdF_0 (f : Nat → Int32) (m : Nat) (a b c d e : Int32) : fdF f m a b c d e 0 = f := by
  funext j; rw [fdF, if_neg (by omega)]
/-- the reference as a call begins -/
def m0 (h : Hp) (g : Nat → Nat) : Hp := pI h (g 0) 0 0
def fdM (h : Hp) (g : Nat → Nat) (m : Nat) (a b c d e : Int32) : Hp := pI (sI (m0 h g) (g 39) (fdF (hI h (g 39)) m a b c d e 20)) (g 0) 40 (nI (m + 20))
theorem m0_i {h : Hp} {g : Nat → Nat} {k : Nat} (hk : k ≠ 0) : hI (m0 h g) (g 0) k = hI h (g 0) k := by rw [m0, hI_pI, if_neg (fun z => hk z.2)]
theorem m0_a {h : Hp} {g : Nat → Nat} (hm : MW h g) {k : Nat} (hk : (k == 0 || mkl.getD k 0 != 0) = true) (h0 : (k == 0) = false) : hI (m0 h g) (g k) = hI h (g k) := by
  funext j; rw [m0, hI_pI, if_neg (fun z => mNe hm (i := k) (j := 0) hk rfl h0 z.1)]
set_option maxRecDepth 20000 in
theorem l_feedG {h : Hp} {g : Nat → Nat} {m : Nat} {a b c d e : Int32} (hm : MW h g) (hl : hI h (g 0) 40 = nI m) (hm8 : m ≤ 380) : ∀ (n_ : Nat) (i : Nat), 20 - i < n_ → (i ≤ 20) → J mX12_feed 1 0 0 (nx (fun v u => v = some (vi (nI (m + 20))) ∧ u = fdM h g m a b c d e)) 23 [some (vr (some (g 0))), some (vi a), some (vi b), some (vi c), some (vi d), some (vi e), some (vi (nI i)), none] [] (sI (m0 h g) (g 39) (fdF (hI h (g 39)) m a b c d e i)) := by
  intro n_
  induction n_ with
  | zero => intro i hlt; omega
  | succ n_ ih =>
    intro i hlt hinv
    have ht : ∀ F, hI (sI (m0 h g) (g 39) F) (g 0) 40 = nI m := fun F => by rw [hI_sI, if_neg (mNe hm (i := 0) (j := 39) rfl rfl rfl), m0_i (by decide), hl]
    refine j_iload dX12_feed_23 rfl ?_
    refine j_bipush (v := 20) dX12_feed_25 (by decide) ?_
    refine j_icmp_ge 113 dX12_feed_27 (by decide) (fun c_27 => ?_) (fun c_27 => ?_)
    · refine j_aload_n dX12_feed_113 rfl ?_
      refine j_aload_n dX12_feed_114 rfl ?_
      refine j_getI dX12_feed_115 fl_X12_258 rfl hm.1 ?_
      rw [ht]
      refine j_bipush (v := 20) dX12_feed_118 (by decide) ?_
      refine j_iadd dX12_feed_120 ?_
      rw [li_20, nI_add]
      refine j_putI dX12_feed_121 fl_X12_258 rfl rfl rfl hm.1 ?_
      have he : i = 20 := by rw [li_20, nI_leI (by omega) (by omega)] at c_27; omega
      subst he
      refine j_aload_n dX12_feed_124 rfl ?_
      refine j_getI dX12_feed_125 fl_X12_258 rfl hm.1 ?_
      rw [hI_pI, if_pos ⟨rfl, rfl⟩]
      exact j_ireturn dX12_feed_128 rfl rfl (⟨rfl, rfl⟩)
    · have hlt2 : i < 20 := by rw [li_20, nI_leI (by omega) (by omega)] at c_27; omega
      refine j_iload dX12_feed_30 rfl ?_
      refine j_iconst (v := 4) dX12_feed_32 (by decide) ?_
      refine j_icmp_ge 40 dX12_feed_33 (by decide) (fun c_33 => ?_) (fun c_33 => ?_)
      · refine j_iload dX12_feed_40 rfl ?_
        refine j_bipush (v := 8) dX12_feed_42 (by decide) ?_
        refine j_icmp_ge 51 dX12_feed_44 (by decide) (fun c_44 => ?_) (fun c_44 => ?_)
        · refine j_iload dX12_feed_51 rfl ?_
          refine j_bipush (v := 12) dX12_feed_53 (by decide) ?_
          refine j_icmp_ge 62 dX12_feed_55 (by decide) (fun c_55 => ?_) (fun c_55 => ?_)
          · refine j_iload dX12_feed_62 rfl ?_
            refine j_bipush (v := 16) dX12_feed_64 (by decide) ?_
            refine j_icmp_ge 74 dX12_feed_66 (by decide) (fun c_66 => ?_) (fun c_66 => ?_)
            · have hq : fw a b c d e i = e := by rw [fw, if_neg (by rw [li_4, nI_leI (by omega) (by omega)] at c_33; omega), if_neg (by rw [li_8, nI_leI (by omega) (by omega)] at c_44; omega), if_neg (by rw [li_12, nI_leI (by omega) (by omega)] at c_55; omega), if_neg (by rw [li_16, nI_leI (by omega) (by omega)] at c_66; omega)]
              refine j_iload dX12_feed_74 rfl ?_
              refine j_istore dX12_feed_76 (by decide) ?_
              dsimp only [st1, st2, unL, List.set]
              refine j_aload_n dX12_feed_78 rfl ?_
              refine j_getR dX12_feed_79 fl_X12_106 rfl hm.1 (mO hm rfl) ?_
              refine j_aload_n dX12_feed_82 rfl ?_
              refine j_getI dX12_feed_83 fl_X12_258 rfl hm.1 ?_
              rw [ht]
              refine j_iload dX12_feed_86 rfl ?_
              refine j_iadd dX12_feed_88 ?_
              refine j_iload dX12_feed_89 rfl ?_
              refine j_bipush (v := 24) dX12_feed_91 (by decide) ?_
              refine j_bipush (v := 8) dX12_feed_93 (by decide) ?_
              refine j_iload dX12_feed_95 rfl ?_
              refine j_iconst (v := 3) dX12_feed_97 (by decide) ?_
              refine j_iand dX12_feed_98 ?_
              refine j_imul dX12_feed_99 ?_
              refine j_isub dX12_feed_100 ?_
              refine j_ishr dX12_feed_101 ?_
              refine j_sipush (v := 255) dX12_feed_102 (by decide) ?_
              refine j_iand dX12_feed_105 ?_
              refine j_iast (m + i) dX12_feed_106 (mK hm rfl) (by rw [nI_add]) (Nat.lt_of_lt_of_eq (by omega) (mN hm (k := 39) (n := 400) rfl rfl).symm) (Nat.lt_of_le_of_lt (Nat.le_of_eq (mN hm (k := 39) (n := 400) rfl rfl)) (by decide)) ?_
              rw [pI_sI, fdF_s (by rw [fb, hq])]
              refine j_iinc dX12_feed_107 rfl ?_
              dsimp only [st1, st2, unL, List.set]
              refine j_goto 23 dX12_feed_110 (by decide) ?_
              refine j_lle (lv' := [some (vr (some (g 0))), some (vi a), some (vi b), some (vi c), some (vi d), some (vi e), some (vi (nI (i + 1))), none]) (by first | (simp [lle, nI_1]; done) | (simp [lle, nI_1]; rfl)) ?_
              exact ih (i + 1) (by omega) (by omega)
            · have hq : fw a b c d e i = d := by rw [fw, if_neg (by rw [li_4, nI_leI (by omega) (by omega)] at c_33; omega), if_neg (by rw [li_8, nI_leI (by omega) (by omega)] at c_44; omega), if_neg (by rw [li_12, nI_leI (by omega) (by omega)] at c_55; omega), if_pos (by rw [li_16, nI_leI (by omega) (by omega)] at c_66; omega)]
              refine j_iload dX12_feed_69 rfl ?_
              refine j_goto 76 dX12_feed_71 (by decide) ?_
              refine j_istore dX12_feed_76 (by decide) ?_
              dsimp only [st1, st2, unL, List.set]
              refine j_aload_n dX12_feed_78 rfl ?_
              refine j_getR dX12_feed_79 fl_X12_106 rfl hm.1 (mO hm rfl) ?_
              refine j_aload_n dX12_feed_82 rfl ?_
              refine j_getI dX12_feed_83 fl_X12_258 rfl hm.1 ?_
              rw [ht]
              refine j_iload dX12_feed_86 rfl ?_
              refine j_iadd dX12_feed_88 ?_
              refine j_iload dX12_feed_89 rfl ?_
              refine j_bipush (v := 24) dX12_feed_91 (by decide) ?_
              refine j_bipush (v := 8) dX12_feed_93 (by decide) ?_
              refine j_iload dX12_feed_95 rfl ?_
              refine j_iconst (v := 3) dX12_feed_97 (by decide) ?_
              refine j_iand dX12_feed_98 ?_
              refine j_imul dX12_feed_99 ?_
              refine j_isub dX12_feed_100 ?_
              refine j_ishr dX12_feed_101 ?_
              refine j_sipush (v := 255) dX12_feed_102 (by decide) ?_
              refine j_iand dX12_feed_105 ?_
              refine j_iast (m + i) dX12_feed_106 (mK hm rfl) (by rw [nI_add]) (Nat.lt_of_lt_of_eq (by omega) (mN hm (k := 39) (n := 400) rfl rfl).symm) (Nat.lt_of_le_of_lt (Nat.le_of_eq (mN hm (k := 39) (n := 400) rfl rfl)) (by decide)) ?_
              rw [pI_sI, fdF_s (by rw [fb, hq])]
              refine j_iinc dX12_feed_107 rfl ?_
              dsimp only [st1, st2, unL, List.set]
              refine j_goto 23 dX12_feed_110 (by decide) ?_
              refine j_lle (lv' := [some (vr (some (g 0))), some (vi a), some (vi b), some (vi c), some (vi d), some (vi e), some (vi (nI (i + 1))), none]) (by first | (simp [lle, nI_1]; done) | (simp [lle, nI_1]; rfl)) ?_
              exact ih (i + 1) (by omega) (by omega)
          · have hq : fw a b c d e i = c := by rw [fw, if_neg (by rw [li_4, nI_leI (by omega) (by omega)] at c_33; omega), if_neg (by rw [li_8, nI_leI (by omega) (by omega)] at c_44; omega), if_pos (by rw [li_12, nI_leI (by omega) (by omega)] at c_55; omega)]
            refine j_iload_n dX12_feed_58 rfl ?_
            refine j_goto 76 dX12_feed_59 (by decide) ?_
            refine j_istore dX12_feed_76 (by decide) ?_
            dsimp only [st1, st2, unL, List.set]
            refine j_aload_n dX12_feed_78 rfl ?_
            refine j_getR dX12_feed_79 fl_X12_106 rfl hm.1 (mO hm rfl) ?_
            refine j_aload_n dX12_feed_82 rfl ?_
            refine j_getI dX12_feed_83 fl_X12_258 rfl hm.1 ?_
            rw [ht]
            refine j_iload dX12_feed_86 rfl ?_
            refine j_iadd dX12_feed_88 ?_
            refine j_iload dX12_feed_89 rfl ?_
            refine j_bipush (v := 24) dX12_feed_91 (by decide) ?_
            refine j_bipush (v := 8) dX12_feed_93 (by decide) ?_
            refine j_iload dX12_feed_95 rfl ?_
            refine j_iconst (v := 3) dX12_feed_97 (by decide) ?_
            refine j_iand dX12_feed_98 ?_
            refine j_imul dX12_feed_99 ?_
            refine j_isub dX12_feed_100 ?_
            refine j_ishr dX12_feed_101 ?_
            refine j_sipush (v := 255) dX12_feed_102 (by decide) ?_
            refine j_iand dX12_feed_105 ?_
            refine j_iast (m + i) dX12_feed_106 (mK hm rfl) (by rw [nI_add]) (Nat.lt_of_lt_of_eq (by omega) (mN hm (k := 39) (n := 400) rfl rfl).symm) (Nat.lt_of_le_of_lt (Nat.le_of_eq (mN hm (k := 39) (n := 400) rfl rfl)) (by decide)) ?_
            rw [pI_sI, fdF_s (by rw [fb, hq])]
            refine j_iinc dX12_feed_107 rfl ?_
            dsimp only [st1, st2, unL, List.set]
            refine j_goto 23 dX12_feed_110 (by decide) ?_
            refine j_lle (lv' := [some (vr (some (g 0))), some (vi a), some (vi b), some (vi c), some (vi d), some (vi e), some (vi (nI (i + 1))), none]) (by first | (simp [lle, nI_1]; done) | (simp [lle, nI_1]; rfl)) ?_
            exact ih (i + 1) (by omega) (by omega)
        · have hq : fw a b c d e i = b := by rw [fw, if_neg (by rw [li_4, nI_leI (by omega) (by omega)] at c_33; omega), if_pos (by rw [li_8, nI_leI (by omega) (by omega)] at c_44; omega)]
          refine j_iload_n dX12_feed_47 rfl ?_
          refine j_goto 76 dX12_feed_48 (by decide) ?_
          refine j_istore dX12_feed_76 (by decide) ?_
          dsimp only [st1, st2, unL, List.set]
          refine j_aload_n dX12_feed_78 rfl ?_
          refine j_getR dX12_feed_79 fl_X12_106 rfl hm.1 (mO hm rfl) ?_
          refine j_aload_n dX12_feed_82 rfl ?_
          refine j_getI dX12_feed_83 fl_X12_258 rfl hm.1 ?_
          rw [ht]
          refine j_iload dX12_feed_86 rfl ?_
          refine j_iadd dX12_feed_88 ?_
          refine j_iload dX12_feed_89 rfl ?_
          refine j_bipush (v := 24) dX12_feed_91 (by decide) ?_
          refine j_bipush (v := 8) dX12_feed_93 (by decide) ?_
          refine j_iload dX12_feed_95 rfl ?_
          refine j_iconst (v := 3) dX12_feed_97 (by decide) ?_
          refine j_iand dX12_feed_98 ?_
          refine j_imul dX12_feed_99 ?_
          refine j_isub dX12_feed_100 ?_
          refine j_ishr dX12_feed_101 ?_
          refine j_sipush (v := 255) dX12_feed_102 (by decide) ?_
          refine j_iand dX12_feed_105 ?_
          refine j_iast (m + i) dX12_feed_106 (mK hm rfl) (by rw [nI_add]) (Nat.lt_of_lt_of_eq (by omega) (mN hm (k := 39) (n := 400) rfl rfl).symm) (Nat.lt_of_le_of_lt (Nat.le_of_eq (mN hm (k := 39) (n := 400) rfl rfl)) (by decide)) ?_
          rw [pI_sI, fdF_s (by rw [fb, hq])]
          refine j_iinc dX12_feed_107 rfl ?_
          dsimp only [st1, st2, unL, List.set]
          refine j_goto 23 dX12_feed_110 (by decide) ?_
          refine j_lle (lv' := [some (vr (some (g 0))), some (vi a), some (vi b), some (vi c), some (vi d), some (vi e), some (vi (nI (i + 1))), none]) (by first | (simp [lle, nI_1]; done) | (simp [lle, nI_1]; rfl)) ?_
          exact ih (i + 1) (by omega) (by omega)
      · have hq : fw a b c d e i = a := by rw [fw, if_pos (by rw [li_4, nI_leI (by omega) (by omega)] at c_33; omega)]
        refine j_iload_n dX12_feed_36 rfl ?_
        refine j_goto 76 dX12_feed_37 (by decide) ?_
        refine j_istore dX12_feed_76 (by decide) ?_
        dsimp only [st1, st2, unL, List.set]
        refine j_aload_n dX12_feed_78 rfl ?_
        refine j_getR dX12_feed_79 fl_X12_106 rfl hm.1 (mO hm rfl) ?_
        refine j_aload_n dX12_feed_82 rfl ?_
        refine j_getI dX12_feed_83 fl_X12_258 rfl hm.1 ?_
        rw [ht]
        refine j_iload dX12_feed_86 rfl ?_
        refine j_iadd dX12_feed_88 ?_
        refine j_iload dX12_feed_89 rfl ?_
        refine j_bipush (v := 24) dX12_feed_91 (by decide) ?_
        refine j_bipush (v := 8) dX12_feed_93 (by decide) ?_
        refine j_iload dX12_feed_95 rfl ?_
        refine j_iconst (v := 3) dX12_feed_97 (by decide) ?_
        refine j_iand dX12_feed_98 ?_
        refine j_imul dX12_feed_99 ?_
        refine j_isub dX12_feed_100 ?_
        refine j_ishr dX12_feed_101 ?_
        refine j_sipush (v := 255) dX12_feed_102 (by decide) ?_
        refine j_iand dX12_feed_105 ?_
        refine j_iast (m + i) dX12_feed_106 (mK hm rfl) (by rw [nI_add]) (Nat.lt_of_lt_of_eq (by omega) (mN hm (k := 39) (n := 400) rfl rfl).symm) (Nat.lt_of_le_of_lt (Nat.le_of_eq (mN hm (k := 39) (n := 400) rfl rfl)) (by decide)) ?_
        rw [pI_sI, fdF_s (by rw [fb, hq])]
        refine j_iinc dX12_feed_107 rfl ?_
        dsimp only [st1, st2, unL, List.set]
        refine j_goto 23 dX12_feed_110 (by decide) ?_
        refine j_lle (lv' := [some (vr (some (g 0))), some (vi a), some (vi b), some (vi c), some (vi d), some (vi e), some (vi (nI (i + 1))), none]) (by first | (simp [lle, nI_1]; done) | (simp [lle, nI_1]; rfl)) ?_
        exact ih (i + 1) (by omega) (by omega)

set_option maxRecDepth 20000 in
theorem f_feed {h : Hp} {g : Nat → Nat} {m : Nat} (a b c d e : Int32) (hm : MW h g) (hl : hI h (g 0) 40 = nI m) (hm4 : m ≤ 400) : Con mX12_feed 1 0 0 [vr (some (g 0)), vi a, vi b, vi c, vi d, vi e] h (fun v u => (380 < m ∧ v = some (vi (-1)) ∧ u = m0 h g) ∨ (m ≤ 380 ∧ v = some (vi (nI (m + 20))) ∧ u = fdM h g m a b c d e)) := by
  refine con_of rfl (Nat.le_of_ble_eq_true rfl) (by decide) ?_
  show J mX12_feed 1 0 0 _ 0 [some (vr (some (g 0))), some (vi a), some (vi b), some (vi c), some (vi d), some (vi e), none, none] [] h
  refine j_aload_n dX12_feed_0 rfl ?_
  refine j_iconst (v := 0) dX12_feed_1 (by decide) ?_
  refine j_putI dX12_feed_2 fl_X12_202 rfl rfl rfl hm.1 ?_
  rw [show pI h (g 0) 0 0 = m0 h g from rfl]
  refine j_aload_n dX12_feed_5 rfl ?_
  refine j_getI dX12_feed_6 fl_X12_258 rfl hm.1 ?_
  rw [m0_i (by decide), hl]
  refine j_bipush (v := 20) dX12_feed_9 (by decide) ?_
  refine j_iadd dX12_feed_11 ?_
  refine j_sipush (v := 400) dX12_feed_12 (by decide) ?_
  rw [li_20, nI_add, li_400]
  refine j_icmp_le 20 dX12_feed_15 (by decide) (fun c_15 => ?_) (fun c_15 => ?_)
  · refine j_iconst (v := 0) dX12_feed_20 (by decide) ?_
    refine j_istore dX12_feed_21 (by decide) ?_
    dsimp only [st1, st2, unL, List.set]
    have hm8 : m ≤ 380 := by rw [nI_leI (by omega) (by omega)] at c_15; omega
    refine j_lle (lv' := [some (vr (some (g 0))), some (vi a), some (vi b), some (vi c), some (vi d), some (vi e), some (vi (nI 0)), none]) (by first | (simp [lle, nI_1]; done) | (simp [lle, nI_1]; rfl)) ?_
    have z : (sI (m0 h g) (g 39) (fdF (hI h (g 39)) m a b c d e 0)) = m0 h g := by rw [fdF_0, ← m0_a hm (k := 39) rfl rfl, sI_self]
    rw [← z]
    refine j_post (fun o_ u_ hp_ => ?_) (l_feedG hm hl hm8 21 0 (by omega) (by omega))
    cases o_ with
    | inl v_ => exact Or.inr ⟨hm8, hp_.1, hp_.2⟩
    | inr E_ => exact hp_
  · exact j_iconst (v := -1) dX12_feed_18 (by decide) (j_ireturn dX12_feed_19 rfl rfl (Or.inl ⟨by rw [nI_leI (by omega) (by omega)] at c_15; omega, rfl, rfl⟩))

set_option maxRecDepth 20000 in
theorem g_end {h : Hp} {b : Nat → Nat} {m : Nat} (x : Int32) (cw : CW h b) (hl : hI h (b 1) 3 = nI m) (hm : m ≤ 400) : Con mX11_end 1 0 0 [vr (some (b 0)), vi x] h (fun v u => (∃ n : Nat, n ≤ m ∧ x = nI n ∧ v = some (vi 1) ∧ u = pI h (b 1) 3 (nI n)) ∨ (¬ (0 ≤ x ∧ x ≤ nI m) ∧ v = some (vi 0) ∧ u = h)) := by
  refine con_of rfl (Nat.le_of_ble_eq_true rfl) (by decide) ?_
  show J mX11_end 1 0 0 _ 0 [some (vr (some (b 0))), some (vi x)] [] h
  refine j_iload_n dX11_end_0 rfl ?_
  refine j_if_lt 15 dX11_end_1 (by decide) (fun c_1 => ?_) (fun c_1 => ?_)
  · exact j_iconst (v := 0) dX11_end_15 (by decide) (j_ireturn dX11_end_16 rfl rfl (Or.inr ⟨fun z => by first | (simp only [le_i, lt_i, Int32.reduceToInt] at z c_1; omega) | exact c_12 z.2, rfl, rfl⟩))
  · refine j_iload_n dX11_end_4 rfl ?_
    refine j_aload_n dX11_end_5 rfl ?_
    refine j_getR dX11_end_6 fl_X11_10 rfl (cwK cw 0 (c := 12) rfl rfl) (cwO cw 0 0 1 (by decide)) ?_
    refine j_getI dX11_end_9 fl_X11_108 rfl (cwK cw 1 (c := 6) rfl rfl) ?_
    rw [hl]
    refine j_icmp_le 17 dX11_end_12 (by decide) (fun c_12 => ?_) (fun c_12 => ?_)
    · have hx : 0 ≤ x.toInt ∧ x.toInt ≤ m := by
        have z := c_12
        simp only [le_i, lt_i, Int32.reduceToInt, nI_toInt (n := m) (by omega)] at z c_1
        omega
      obtain ⟨n, hn, rfl, -⟩ := nI_ex hx.1 hx.2
      refine j_aload_n dX11_end_17 rfl ?_
      refine j_getR dX11_end_18 fl_X11_10 rfl (cwK cw 0 (c := 12) rfl rfl) (cwO cw 0 0 1 (by decide)) ?_
      refine j_iload_n dX11_end_21 rfl ?_
      refine j_putI dX11_end_22 fl_X11_108 rfl rfl rfl (cwK cw 1 (c := 6) rfl rfl) ?_
      refine j_iconst (v := 1) dX11_end_25 (by decide) ?_
      exact j_ireturn dX11_end_26 rfl rfl (Or.inl ⟨n, hn, rfl, rfl, rfl⟩)
    · exact j_iconst (v := 0) dX11_end_15 (by decide) (j_ireturn dX11_end_16 rfl rfl (Or.inr ⟨fun z => by first | (simp only [le_i, lt_i, Int32.reduceToInt] at z c_1; omega) | exact c_12 z.2, rfl, rfl⟩))

set_option maxRecDepth 20000 in
theorem f_end {h : Hp} {g : Nat → Nat} {m : Nat} (x : Int32) (hm : MW h g) (hl : hI h (g 0) 40 = nI m) (hm4 : m ≤ 400) : Con mX12_end 2 0 0 [vr (some (g 0)), vi x] h (fun v u => (0 ≤ x ∧ x ≤ nI m ∧ v = some (vi 1) ∧ u = pI (m0 h g) (g 0) 40 x) ∨ (¬ (0 ≤ x ∧ x ≤ nI m) ∧ v = some (vi 0) ∧ u = m0 h g)) := by
  refine con_of rfl (Nat.le_of_ble_eq_true rfl) (by decide) ?_
  show J mX12_end 2 0 0 _ 0 [some (vr (some (g 0))), some (vi x), none] [] h
  refine j_aload_n dX12_end_0 rfl ?_
  refine j_iconst (v := 0) dX12_end_1 (by decide) ?_
  refine j_putI dX12_end_2 fl_X12_202 rfl rfl rfl hm.1 ?_
  rw [show pI h (g 0) 0 0 = m0 h g from rfl]
  refine j_iload_n dX12_end_5 rfl ?_
  refine j_iconst (v := 0) dX12_end_6 (by decide) ?_
  refine j_aload_n dX12_end_7 rfl ?_
  refine j_getI dX12_end_8 fl_X12_258 rfl hm.1 ?_
  rw [m0_i (by decide), hl]
  refine j_callS3 dX12_end_11 sl_X12_220 (c_in _ _ _) rfl (by decide) (by omega) (by omega) (Nat.le_of_ble_eq_true rfl) (fun v_11 u_11 p_11 => ?_)
  obtain ⟨e_11, rfl⟩ := p_11
  rw [e_11]
  clear e_11
  dsimp only [rs]
  refine j_istore_n dX12_end_14 (by decide) ?_
  dsimp only [st1, st2, unL, List.set]
  refine j_iload_n dX12_end_15 rfl ?_
  refine j_if_eq 24 dX12_end_16 (by decide) (fun c_16 => ?_) (fun c_16 => ?_)
  · refine j_iload_n dX12_end_24 rfl ?_
    first | (have q := b2_nn.mp c_16; exact j_ireturn dX12_end_25 rfl (by exact b2_nar) (Or.inl ⟨q.1, q.2, by rw [b2, if_pos q], rfl⟩)) | (have q := b2_0.mp c_16; exact j_ireturn dX12_end_25 rfl (by exact b2_nar) (Or.inr ⟨q, by rw [b2f q], rfl⟩))
  · refine j_aload_n dX12_end_19 rfl ?_
    refine j_iload_n dX12_end_20 rfl ?_
    refine j_putI dX12_end_21 fl_X12_258 rfl rfl rfl hm.1 ?_
    refine j_iload_n dX12_end_24 rfl ?_
    first | (have q := b2_nn.mp c_16; exact j_ireturn dX12_end_25 rfl (by exact b2_nar) (Or.inl ⟨q.1, q.2, by rw [b2, if_pos q], rfl⟩)) | (have q := b2_0.mp c_16; exact j_ireturn dX12_end_25 rfl (by exact b2_nar) (Or.inr ⟨q, by rw [b2f q], rfl⟩))

set_option maxRecDepth 20000 in
theorem g_fault {h : Hp} {b : Nat → Nat} (x : Int32) (cw : CW h b) : Con mX11_fault 1 0 0 [vr (some (b 0)), vi x] h (fun v u => v = some (vi (if x = 0 then hI h (b 1) 4 else if x = 1 then hI h (b 1) 5 else -1)) ∧ u = h) := by
  refine con_of rfl (Nat.le_of_ble_eq_true rfl) (by decide) ?_
  show J mX11_fault 1 0 0 _ 0 [some (vr (some (b 0))), some (vi x)] [] h
  refine j_iload_n dX11_fault_0 rfl ?_
  refine j_if_ne 12 dX11_fault_1 (by decide) (fun c_1 => ?_) (fun c_1 => ?_)
  · refine j_iload_n dX11_fault_12 rfl ?_
    refine j_iconst (v := 1) dX11_fault_13 (by decide) ?_
    refine j_icmp_ne 27 dX11_fault_14 (by decide) (fun c_14 => ?_) (fun c_14 => ?_)
    · refine j_iconst (v := -1) dX11_fault_27 (by decide) ?_
      first | exact j_ireturn dX11_fault_28 rfl rfl ⟨by rw [if_neg c_1, if_pos (Classical.not_not.mp c_14)], rfl⟩ | exact j_ireturn dX11_fault_28 rfl rfl ⟨by rw [if_neg c_1, if_neg c_14], rfl⟩
    · refine j_aload_n dX11_fault_17 rfl ?_
      refine j_getR dX11_fault_18 fl_X11_10 rfl (cwK cw 0 (c := 12) rfl rfl) (cwO cw 0 0 1 (by decide)) ?_
      refine j_getI dX11_fault_21 fl_X11_149 rfl (cwK cw 1 (c := 6) rfl rfl) ?_
      refine j_goto 28 dX11_fault_24 (by decide) ?_
      first | exact j_ireturn dX11_fault_28 rfl rfl ⟨by rw [if_neg c_1, if_pos (Classical.not_not.mp c_14)], rfl⟩ | exact j_ireturn dX11_fault_28 rfl rfl ⟨by rw [if_neg c_1, if_neg c_14], rfl⟩
  · refine j_aload_n dX11_fault_4 rfl ?_
    refine j_getR dX11_fault_5 fl_X11_10 rfl (cwK cw 0 (c := 12) rfl rfl) (cwO cw 0 0 1 (by decide)) ?_
    refine j_getI dX11_fault_8 fl_X11_124 rfl (cwK cw 1 (c := 6) rfl rfl) ?_
    exact j_ireturn dX11_fault_11 rfl rfl ⟨by rw [if_pos (Classical.not_not.mp c_1)], rfl⟩

set_option maxRecDepth 20000 in
theorem f_fault {h : Hp} {g : Nat → Nat} (x : Int32) (hm : MW h g) : Con mX12_fault 1 0 0 [vr (some (g 0)), vi x] h (fun v u => v = some (vi (if x = 0 then hI h (g 0) 41 else if x = 1 then hI h (g 0) 42 else -1)) ∧ u = m0 h g) := by
  refine con_of rfl (Nat.le_of_ble_eq_true rfl) (by decide) ?_
  show J mX12_fault 1 0 0 _ 0 [some (vr (some (g 0))), some (vi x)] [] h
  refine j_aload_n dX12_fault_0 rfl ?_
  refine j_iconst (v := 0) dX12_fault_1 (by decide) ?_
  refine j_putI dX12_fault_2 fl_X12_202 rfl rfl rfl hm.1 ?_
  rw [show pI h (g 0) 0 0 = m0 h g from rfl]
  refine j_iload_n dX12_fault_5 rfl ?_
  refine j_if_ne 16 dX12_fault_6 (by decide) (fun c_6 => ?_) (fun c_6 => ?_)
  · refine j_iload_n dX12_fault_16 rfl ?_
    refine j_iconst (v := 1) dX12_fault_17 (by decide) ?_
    refine j_icmp_ne 28 dX12_fault_18 (by decide) (fun c_18 => ?_) (fun c_18 => ?_)
    · refine j_iconst (v := -1) dX12_fault_28 (by decide) ?_
      first | exact j_ireturn dX12_fault_29 rfl rfl ⟨by rw [if_pos (Classical.not_not.mp c_6)], rfl⟩ | exact j_ireturn dX12_fault_29 rfl rfl ⟨by rw [if_neg c_6, if_pos (Classical.not_not.mp c_18)], rfl⟩ | exact j_ireturn dX12_fault_29 rfl rfl ⟨by rw [if_neg c_6, if_neg c_18], rfl⟩
    · refine j_aload_n dX12_fault_21 rfl ?_
      refine j_getI dX12_fault_22 fl_X12_280 rfl hm.1 ?_
      rw [m0_i (by decide)]
      refine j_goto 29 dX12_fault_25 (by decide) ?_
      first | exact j_ireturn dX12_fault_29 rfl rfl ⟨by rw [if_pos (Classical.not_not.mp c_6)], rfl⟩ | exact j_ireturn dX12_fault_29 rfl rfl ⟨by rw [if_neg c_6, if_pos (Classical.not_not.mp c_18)], rfl⟩ | exact j_ireturn dX12_fault_29 rfl rfl ⟨by rw [if_neg c_6, if_neg c_18], rfl⟩
  · refine j_aload_n dX12_fault_9 rfl ?_
    refine j_getI dX12_fault_10 fl_X12_277 rfl hm.1 ?_
    rw [m0_i (by decide)]
    refine j_goto 29 dX12_fault_13 (by decide) ?_
    first | exact j_ireturn dX12_fault_29 rfl rfl ⟨by rw [if_pos (Classical.not_not.mp c_6)], rfl⟩ | exact j_ireturn dX12_fault_29 rfl rfl ⟨by rw [if_neg c_6, if_pos (Classical.not_not.mp c_18)], rfl⟩ | exact j_ireturn dX12_fault_29 rfl rfl ⟨by rw [if_neg c_6, if_neg c_18], rfl⟩

