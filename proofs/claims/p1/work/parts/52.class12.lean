/-! ===== the system on a fresh object: values ===== -/
theorem lc0 (s : Int64) : lg_cmp ((0 : Int64) >>> s &&& 1) 0 = 0 := by rw [Int64.zero_shiftRight]; decide
theorem rc6 {i j : Nat} : (nI (i + 1) - 1) * nI 6 + nI (j + 1) - 1 = nI (i * 6 + j) := by
  rw [li_1, pk_sub (by omega), pk_mul, nI_add, pk_sub (by omega)]; congr 1
set_option maxRecDepth 20000 in
theorem c_valueAtN {h : Hp} {a ra ca xa : Nat} {i j : Nat} (hs : Sh h a ra ca xa 8 6) (hz : ∀ j, j < 48 → hO h xa j = none) (hi : i < 8) (hj : j < 6) : Con mX6_valueAt 1 0 0 [vr (some a), vi (nI (i + 1)), vi (nI (j + 1))] h (fun v u => u = h ∧ v = some (vr none)) := by
  obtain ⟨s1, s2, s3, s4, s5, s6, s7, s8, s9, s10, s11, s12, s13, s14⟩ := hs
  refine con_of rfl (Nat.le_of_ble_eq_true rfl) (by decide) ?_
  show J mX6_valueAt 1 0 0 _ 0 [some (vr (some a)), some (vi (nI (i + 1))), some (vi (nI (j + 1))), none, none] [] h
  refine j_iload_n dX6_valueAt_0 rfl ?_
  refine j_iconst (v := 1) dX6_valueAt_1 (by decide) ?_
  refine j_icmp_lt 28 dX6_valueAt_2 (by decide) (fun c_2 => ?_) (fun c_2 => ?_)
  · exact absurd c_2 (by rw [li_1, nI_ltI (by omega) (by omega)]; omega)
  · refine j_iload_n dX6_valueAt_5 rfl ?_
    refine j_aload_n dX6_valueAt_6 rfl ?_
    refine j_getR dX6_valueAt_7 fl_X6_9 rfl s1 s2 ?_
    refine j_alen dX6_valueAt_10 (t := 1) s5 (by decide) ?_
    rw [s6]
    refine j_icmp_gt 28 dX6_valueAt_11 (by decide) (fun c_11 => ?_) (fun c_11 => ?_)
    · exact absurd c_11 (by rw [nI_ltI (by omega) (by omega)]; omega)
    · refine j_iload_n dX6_valueAt_14 rfl ?_
      refine j_iconst (v := 1) dX6_valueAt_15 (by decide) ?_
      refine j_icmp_lt 28 dX6_valueAt_16 (by decide) (fun c_16 => ?_) (fun c_16 => ?_)
      · exact absurd c_16 (by rw [li_1, nI_ltI (by omega) (by omega)]; omega)
      · refine j_iload_n dX6_valueAt_19 rfl ?_
        refine j_aload_n dX6_valueAt_20 rfl ?_
        refine j_getR dX6_valueAt_21 fl_X6_15 rfl s1 s3 ?_
        refine j_alen dX6_valueAt_24 (t := 1) s7 (by decide) ?_
        rw [s8]
        refine j_icmp_le 30 dX6_valueAt_25 (by decide) (fun c_25 => ?_) (fun c_25 => ?_)
        · refine j_iload_n dX6_valueAt_30 rfl ?_
          refine j_iconst (v := 1) dX6_valueAt_31 (by decide) ?_
          refine j_isub dX6_valueAt_32 ?_
          refine j_aload_n dX6_valueAt_33 rfl ?_
          refine j_getR dX6_valueAt_34 fl_X6_15 rfl s1 s3 ?_
          refine j_alen dX6_valueAt_37 (t := 1) s7 (by decide) ?_
          rw [s8]
          refine j_imul dX6_valueAt_38 ?_
          refine j_iload_n dX6_valueAt_39 rfl ?_
          refine j_iadd dX6_valueAt_40 ?_
          refine j_iconst (v := 1) dX6_valueAt_41 (by decide) ?_
          refine j_isub dX6_valueAt_42 ?_
          rw [rc6]
          refine j_istore_n dX6_valueAt_43 (by decide) ?_
          dsimp only [st1, st2, unL, List.set]
          refine j_aload_n dX6_valueAt_44 rfl ?_
          refine j_getR dX6_valueAt_45 fl_X6_20 rfl s1 s4 ?_
          refine j_iload_n dX6_valueAt_48 rfl ?_
          refine j_aald (t := 5) (i * 6 + j) dX6_valueAt_49 s9 (by decide) (by decide) rfl (by rw [s10]; omega) (by rw [s10]; decide) ?_
          rw [hz _ (by omega)]
          refine j_astore dX6_valueAt_50 (by decide) ?_
          dsimp only [st1, st2, unL, List.set]
          refine j_aload dX6_valueAt_52 rfl ?_
          refine j_ifnull 66 dX6_valueAt_54 (by decide) (fun c_54 => ?_) (fun c_54 => ?_)
          · refine j_aload dX6_valueAt_66 rfl ?_
            refine j_ifnull 79 dX6_valueAt_68 (by decide) (fun c_68 => ?_) (fun c_68 => ?_)
            · refine j_null dX6_valueAt_79 ?_
              exact j_areturn dX6_valueAt_80 rfl rfl (⟨rfl, rfl⟩)
            · exact absurd rfl c_68
          · exact absurd rfl c_54
        · exact absurd (by rw [nI_leI (by omega) (by omega)]; omega) c_25

set_option maxRecDepth 20000 in
theorem l_vla {h : Hp} {a ra ca xa : Nat} (hs : Sh h a ra ca xa 8 6) (hz : ∀ j, j < 48 → hO h xa j = none) : ∀ (n : Nat) (i : Nat), 48 - i < n → (i ≤ 48) → J mX6_versionsLookedAt 2 0 0 (nx (fun v u => u = h ∧ v = some (vl 0))) 4 [some (vr (some a)), some (vl 0), none, some (vi (nI i)), none, none] [] h := by
  intro n
  induction n with
  | zero => intro i hlt; omega
  | succ n ih =>
    intro i hlt hinv
    obtain ⟨s1, s2, s3, s4, s5, s6, s7, s8, s9, s10, s11, s12, s13, s14⟩ := hs
    refine j_iload_n dX6_versionsLookedAt_4 rfl ?_
    refine j_aload_n dX6_versionsLookedAt_5 rfl ?_
    refine j_getR dX6_versionsLookedAt_6 fl_X6_20 rfl s1 s4 ?_
    refine j_alen dX6_versionsLookedAt_9 (t := 5) s9 (by decide) ?_
    rw [s10]
    refine j_icmp_ge 79 dX6_versionsLookedAt_10 (by decide) (fun c_10 => ?_) (fun c_10 => ?_)
    · refine j_lload_n dX6_versionsLookedAt_79 rfl ?_
      exact j_lreturn dX6_versionsLookedAt_80 rfl (⟨rfl, rfl⟩)
    · have hlt2 : i < 48 := by rw [nI_leI (by omega) (by omega)] at c_10; omega
      refine j_iconst (v := 0) dX6_versionsLookedAt_13 (by decide) ?_
      refine j_istore dX6_versionsLookedAt_14 (by decide) ?_
      dsimp only [st1, st2, unL, List.set]
      refine j_iload dX6_versionsLookedAt_16 rfl ?_
      refine j_aload_n dX6_versionsLookedAt_18 rfl ?_
      refine j_getR dX6_versionsLookedAt_19 fl_X6_20 rfl s1 s4 ?_
      refine j_iload_n dX6_versionsLookedAt_22 rfl ?_
      refine j_aald (t := 5) i dX6_versionsLookedAt_23 s9 (by decide) (by decide) rfl (by rw [s10]; omega) (by rw [s10]; decide) ?_
      rw [hz _ hlt2]
      refine j_callSN1 dX6_versionsLookedAt_24 snl_X6_51 c_partsOfN rfl (by decide) (by omega) (by omega) (Nat.le_of_ble_eq_true rfl) (fun v_24 u_24 p_24 => ?_)
      obtain ⟨e_24, rfl⟩ := p_24
      rw [e_24]
      clear e_24
      dsimp only [rs]
      refine j_icmp_ge 73 dX6_versionsLookedAt_27 (by decide) (fun c_27 => ?_) (fun c_27 => ?_)
      · refine j_iinc dX6_versionsLookedAt_73 rfl ?_
        dsimp only [st1, st2, unL, List.set]
        refine j_goto 4 dX6_versionsLookedAt_76 (by decide) ?_
        refine j_lle (lv' := [some (vr (some a)), some (vl 0), none, some (vi (nI (i + 1))), none, none]) (by first | (simp [lle, nI_1]; done) | (simp [lle, nI_1]; rfl)) ?_
        exact ih (i + 1) (by omega) (by omega)
      · exact absurd (by decide) c_27

set_option maxRecDepth 20000 in
theorem c_vla {h : Hp} {a ra ca xa : Nat} (hs : Sh h a ra ca xa 8 6) (hz : ∀ j, j < 48 → hO h xa j = none) : Con mX6_versionsLookedAt 2 0 0 [vr (some a)] h (fun v u => u = h ∧ v = some (vl 0)) := by
  refine con_of rfl (Nat.le_of_ble_eq_true rfl) (by decide) ?_
  show J mX6_versionsLookedAt 2 0 0 _ 0 [some (vr (some a)), none, none, none, none, none] [] h
  refine j_lconst (v := 0) dX6_versionsLookedAt_0 (by decide) ?_
  refine j_lstore_n dX6_versionsLookedAt_1 (by decide) ?_
  dsimp only [st1, st2, unL, List.set]
  refine j_iconst (v := 0) dX6_versionsLookedAt_2 (by decide) ?_
  refine j_istore_n dX6_versionsLookedAt_3 (by decide) ?_
  dsimp only [st1, st2, unL, List.set]
  refine j_lle (lv' := [some (vr (some a)), some (vl 0), none, some (vi (nI 0)), none, none]) (by first | (simp [lle, nI_1]; done) | (simp [lle, nI_1]; rfl)) ?_
  exact l_vla hs hz 49 0 (by omega) (by omega)

set_option maxRecDepth 20000 in
theorem l_clear {h : Hp} {t : Nat} (k1 : hK h t = 16) (k2 : hN h t = 5) : ∀ (n : Nat) (i : Nat) (u : Hp), 5 - i < n → (i ≤ 5 ∧ Fr (fun c => c = t) h u ∧ ∀ k, k < i → hG u t k = 0) → J mX9_clear 1 0 0 (nx (fun v u => v = none ∧ Fr (fun c => c = t) h u ∧ ∀ k, k < 5 → hG u t k = 0)) 2 [some (vr (some t)), some (vi 0), some (vi (nI i))] [] u := by
  intro n
  induction n with
  | zero => intro i u hlt; omega
  | succ n ih =>
    intro i u hlt hinv
    obtain ⟨hi, hF, hz⟩ := hinv
    have g1 := Fr_K hF k1 (by decide)
    have g2 := Fr_N hF k1 (by decide) k2
    refine j_iload_n dX9_clear_2 rfl ?_
    refine j_iload_n dX9_clear_3 rfl ?_
    refine j_iconst (v := 5) dX9_clear_4 (by decide) ?_
    refine j_iadd dX9_clear_5 ?_
    rw [show (0 : Int32) + 5 = nI 5 from rfl]
    refine j_icmp_ge 25 dX9_clear_6 (by decide) (fun c_6 => ?_) (fun c_6 => ?_)
    · have he : i = 5 := by rw [nI_leI (by omega) (by omega)] at c_6; omega
      subst he
      exact j_return dX9_clear_25 rfl ⟨rfl, hF, hz⟩
    · have hlt2 : i < 5 := by rw [nI_leI (by omega) (by omega)] at c_6; omega
      refine j_iload_n dX9_clear_9 rfl ?_
      refine j_aload_n dX9_clear_10 rfl ?_
      refine j_alen dX9_clear_11 (t := 2) g1 (by decide) ?_
      rw [g2]
      refine j_icmp_ge 25 dX9_clear_12 (by decide) (fun c_12 => ?_) (fun c_12 => ?_)
      · exact absurd c_12 (by rw [nI_leI (by omega) (by omega)]; omega)
      · refine j_aload_n dX9_clear_15 rfl ?_
        refine j_iload_n dX9_clear_16 rfl ?_
        refine j_lconst (v := 0) dX9_clear_17 (by decide) ?_
        refine j_last i dX9_clear_18 g1 rfl (by rw [g2]; exact hlt2) (by rw [g2]; decide) ?_
        refine j_iinc dX9_clear_19 rfl ?_
        dsimp only [st1, st2, unL, List.set]
        refine j_goto 2 dX9_clear_22 (by decide) ?_
        refine j_lle (lv' := [some (vr (some t)), some (vi 0), some (vi (nI (i + 1)))]) (by first | (simp [lle, nI_1]; done) | (simp [lle, nI_1]; rfl)) ?_
        exact ih (i + 1) _ (by omega) ⟨by omega, Fr_pG hF (Or.inl rfl), fun k hk => by
          by_cases e : k = i
          · subst e; rw [hG_pG, if_pos ⟨rfl, rfl⟩]
          · rw [hG_pG, if_neg (fun z => e z.2)]; exact hz k (by omega)⟩

set_option maxRecDepth 20000 in
theorem c_clear {h : Hp} {t : Nat} (k1 : hK h t = 16) (k2 : hN h t = 5) : Con mX9_clear 1 0 0 [vr (some t), vi 0] h (fun v u => v = none ∧ Fr (fun c => c = t) h u ∧ ∀ k, k < 5 → hG u t k = 0) := by
  refine con_of rfl (Nat.le_of_ble_eq_true rfl) (by decide) ?_
  show J mX9_clear 1 0 0 _ 0 [some (vr (some t)), some (vi 0), none] [] h
  refine j_iload_n dX9_clear_0 rfl ?_
  refine j_istore_n dX9_clear_1 (by decide) ?_
  dsimp only [st1, st2, unL, List.set]
  refine j_lle (lv' := [some (vr (some t)), some (vi 0), some (vi (nI 0))]) (by first | (simp [lle, nI_1]; done) | (simp [lle, nI_1]; rfl)) ?_
  exact l_clear k1 k2 6 0 _ (by omega) ⟨by omega, Fr_rf, fun k hk => by omega⟩

/-- the worker x: its long arrays -/
def WK (h : Hp) (x l m t : Nat) : Prop := (hK h x = 10 ∧ hO h x 3 = some l ∧ hO h x 4 = some m ∧ hO h x 5 = some t) ∧ (hK h l = 16 ∧ hN h l = 1600) ∧ (hK h m = 16 ∧ hN h m = 1600) ∧ (hK h t = 16 ∧ hN h t = 5) ∧ t ≠ m
theorem WK_fr {S : Nat → Prop} {h u : Hp} {x l m t : Nat} (k : WK h x l m t) (f : Fr S h u) (hx : ¬ S x) : WK u x l m t := by
  obtain ⟨⟨a1, a2, a3, a4⟩, ⟨b1, b2⟩, ⟨c1, c2⟩, ⟨d1, d2⟩, e⟩ := k
  exact ⟨⟨Fr_K f a1 (by decide), Fr_O f a1 (by decide) hx a2, Fr_O f a1 (by decide) hx a3, Fr_O f a1 (by decide) hx a4⟩, ⟨Fr_K f b1 (by decide), Fr_N f b1 (by decide) b2⟩, ⟨Fr_K f c1 (by decide), Fr_N f c1 (by decide) c2⟩, ⟨Fr_K f d1 (by decide), Fr_N f d1 (by decide) d2⟩, e⟩
theorem WK_pO {h : Hp} {x l m t : Nat} {y : Option Nat} (k : WK h x l m t) : WK (pO h x 8 y) x l m t := by
  obtain ⟨⟨a1, a2, a3, a4⟩, b, c, d, e⟩ := k
  exact ⟨⟨a1, by rw [hO_pO, if_neg (fun z => by have := z.2; omega)]; exact a2, by rw [hO_pO, if_neg (fun z => by have := z.2; omega)]; exact a3, by rw [hO_pO, if_neg (fun z => by have := z.2; omega)]; exact a4⟩, b, c, d, e⟩
theorem WK_fc {h : Hp} {b : Nat → Nat} {w xw : Nat} (fc : FC h b w xw) : WK h (b 4) (b 25) (b 26) (b 27) := ⟨⟨fcK fc 4 rfl rfl, fcO fc 4 3 25 (by decide), fcO fc 4 4 26 (by decide), fcO fc 4 5 27 (by decide)⟩, ⟨fcK fc 25 rfl rfl, fcN fc 25 rfl rfl⟩, ⟨fcK fc 26 rfl rfl, fcN fc 26 rfl rfl⟩, ⟨fcK fc 27 rfl rfl, fcN fc 27 rfl rfl⟩, fcNe fc (i := 27) (j := 26) rfl rfl rfl⟩
set_option maxRecDepth 20000 in
theorem c_isOpen0 {h : Hp} {x l m t : Nat} {i : Nat} (k : WK h x l m t) (hz : ∀ j, j < 5 → hG h t j = 0) (hi : i < 320) : Con mX9_isOpen 1 0 0 [vr (some x), vi (nI i)] h (fun v u => u = h ∧ v = some (vi 0)) := by
  refine con_of rfl (Nat.le_of_ble_eq_true rfl) (by decide) ?_
  show J mX9_isOpen 1 0 0 _ 0 [some (vr (some x)), some (vi (nI i))] [] h
  refine j_aload_n dX9_isOpen_0 rfl ?_
  refine j_getR dX9_isOpen_1 fl_X9_31 rfl k.1.1 k.1.2.2.2 ?_
  refine j_iload_n dX9_isOpen_4 rfl ?_
  refine j_bipush (v := 64) dX9_isOpen_5 (by decide) ?_
  refine j_idiv dX9_isOpen_7 (by decide) ?_
  rw [li_64, pk_div (by omega) (by decide) (by decide)]
  refine j_lald (i / 64) dX9_isOpen_8 k.2.2.2.1.1 rfl (by rw [k.2.2.2.1.2]; omega) (by rw [k.2.2.2.1.2]; decide) ?_
  rw [hz _ (by omega)]
  refine j_iload_n dX9_isOpen_9 rfl ?_
  refine j_bipush (v := 64) dX9_isOpen_10 (by decide) ?_
  refine j_irem dX9_isOpen_12 (by decide) ?_
  refine j_lshr dX9_isOpen_13 ?_
  refine j_lconst (v := 1) dX9_isOpen_14 (by decide) ?_
  refine j_land dX9_isOpen_15 ?_
  refine j_lconst (v := 0) dX9_isOpen_16 (by decide) ?_
  refine j_lcmp dX9_isOpen_17 ?_
  refine j_if_eq 25 dX9_isOpen_18 (by decide) (fun c_18 => ?_) (fun c_18 => ?_)
  · refine j_iconst (v := 0) dX9_isOpen_25 (by decide) ?_
    exact j_ireturn dX9_isOpen_26 rfl rfl (⟨rfl, rfl⟩)
  · exact absurd (lc0 _) c_18

set_option maxRecDepth 20000 in
theorem l_settleB {h : Hp} {x l m t : Nat} {mm : Nat} (k : WK h x l m t) (hz : ∀ j, j < 5 → hG h t j = 0) (hn : mm ≤ 320) : ∀ (n : Nat) (i : Nat), mm - i < n → (i ≤ mm) → J mX9_settleCircles 2 0 0 (nx (fun v u => v = none ∧ u = h)) 109 [some (vr (some x)), some (vi (nI mm)), some (vi (nI i)), none, none] [] h := by
  intro n
  induction n with
  | zero => intro i hlt; omega
  | succ n ih =>
    intro i hlt hinv
    refine j_iload_n dX9_settleCircles_109 rfl ?_
    refine j_iload_n dX9_settleCircles_110 rfl ?_
    refine j_icmp_ge 158 dX9_settleCircles_111 (by decide) (fun c_111 => ?_) (fun c_111 => ?_)
    · exact j_return dX9_settleCircles_158 rfl (⟨rfl, rfl⟩)
    · have hlt2 : i < mm := by rw [nI_leI (by omega) (by omega)] at c_111; omega
      refine j_aload_n dX9_settleCircles_114 rfl ?_
      refine j_iload_n dX9_settleCircles_115 rfl ?_
      refine j_callV1 dX9_settleCircles_116 vl_X9_136 (c_isOpen0 k hz (by omega)) k.1.1 rfl (by decide) (by omega) (by omega) (Nat.le_of_ble_eq_true rfl) (fun v_116 u_116 p_116 => ?_)
      obtain ⟨e_116, rfl⟩ := p_116
      rw [e_116]
      clear e_116
      dsimp only [rs]
      refine j_if_eq 152 dX9_settleCircles_119 (by decide) (fun c_119 => ?_) (fun c_119 => ?_)
      · refine j_iinc dX9_settleCircles_152 rfl ?_
        dsimp only [st1, st2, unL, List.set]
        refine j_goto 109 dX9_settleCircles_155 (by decide) ?_
        refine j_lle (lv' := [some (vr (some x)), some (vi (nI mm)), some (vi (nI (i + 1))), none, none]) (by first | (simp [lle, nI_1]; done) | (simp [lle, nI_1]; rfl)) ?_
        exact ih (i + 1) (by omega) (by omega)
      · exact absurd rfl c_119

set_option maxRecDepth 20000 in
theorem l_settleA {h : Hp} {x l m t : Nat} {mm : Nat} (k : WK h x l m t) (hz : ∀ j, j < 5 → hG h t j = 0) (hn : mm ≤ 320) : ∀ (n : Nat) (i : Nat), mm - i < n → (i ≤ mm) → J mX9_settleCircles 2 0 0 (nx (fun v u => v = none ∧ u = h)) 18 [some (vr (some x)), some (vi (nI mm)), some (vi (nI i)), none, none] [] h := by
  intro n
  induction n with
  | zero => intro i hlt; omega
  | succ n ih =>
    intro i hlt hinv
    refine j_iload_n dX9_settleCircles_18 rfl ?_
    refine j_iload_n dX9_settleCircles_19 rfl ?_
    refine j_icmp_ge 107 dX9_settleCircles_20 (by decide) (fun c_20 => ?_) (fun c_20 => ?_)
    · refine j_iconst (v := 0) dX9_settleCircles_107 (by decide) ?_
      refine j_istore_n dX9_settleCircles_108 (by decide) ?_
      dsimp only [st1, st2, unL, List.set]
      refine j_lle (lv' := [some (vr (some x)), some (vi (nI mm)), some (vi (nI 0)), none, none]) (by first | (simp [lle, nI_1]; done) | (simp [lle, nI_1]; rfl)) ?_
      exact l_settleB k hz hn (mm + 1) 0 (by omega) (by omega)
    · have hlt2 : i < mm := by rw [nI_leI (by omega) (by omega)] at c_20; omega
      refine j_iconst (v := 0) dX9_settleCircles_23 (by decide) ?_
      refine j_istore_n dX9_settleCircles_24 (by decide) ?_
      dsimp only [st1, st2, unL, List.set]
      refine j_iload_n dX9_settleCircles_25 rfl ?_
      refine j_iload_n dX9_settleCircles_26 rfl ?_
      refine j_icmp_ge 101 dX9_settleCircles_27 (by decide) (fun c_27 => ?_) (fun c_27 => ?_)
      · refine j_iinc dX9_settleCircles_101 rfl ?_
        dsimp only [st1, st2, unL, List.set]
        refine j_goto 18 dX9_settleCircles_104 (by decide) ?_
        refine j_lle (lv' := [some (vr (some x)), some (vi (nI mm)), some (vi (nI (i + 1))), none, none]) (by first | (simp [lle, nI_1]; done) | (simp [lle, nI_1]; rfl)) ?_
        exact ih (i + 1) (by omega) (by omega)
      · refine j_aload_n dX9_settleCircles_30 rfl ?_
        refine j_iload_n dX9_settleCircles_31 rfl ?_
        refine j_callV1 dX9_settleCircles_32 vl_X9_136 (c_isOpen0 k hz (by omega)) k.1.1 rfl (by decide) (by omega) (by omega) (Nat.le_of_ble_eq_true rfl) (fun v_32 u_32 p_32 => ?_)
        obtain ⟨e_32, rfl⟩ := p_32
        rw [e_32]
        clear e_32
        dsimp only [rs]
        refine j_if_eq 101 dX9_settleCircles_35 (by decide) (fun c_35 => ?_) (fun c_35 => ?_)
        · refine j_iinc dX9_settleCircles_101 rfl ?_
          dsimp only [st1, st2, unL, List.set]
          refine j_goto 18 dX9_settleCircles_104 (by decide) ?_
          refine j_lle (lv' := [some (vr (some x)), some (vi (nI mm)), some (vi (nI (i + 1))), none, none]) (by first | (simp [lle, nI_1]; done) | (simp [lle, nI_1]; rfl)) ?_
          exact ih (i + 1) (by omega) (by omega)
        · exact absurd rfl c_35

theorem Fr_sG {S : Nat → Prop} {h u : Hp} {a : Nat} {f : Nat → Int64} (q : Fr S h u) (ha : S a ∨ hK h a = 0) : Fr S h (sG u a f) := fun b hb => by
  obtain ⟨q1, q2, q3⟩ := q b hb
  refine ⟨q1, q2, fun hs => ?_⟩
  obtain ⟨r1, r2, r3⟩ := q3 hs
  refine ⟨r1, ?_, r3⟩
  rw [hG_sG, if_neg (fun e => by subst e; exact ha.elim hs hb)]; exact r2
set_option maxRecDepth 20000 in
theorem c_settle0 {h : Hp} {x l m t : Nat} {mm : Nat} (k : WK h x l m t) (hz : ∀ j, j < 5 → hG h t j = 0) (hn : mm ≤ 320) : Con mX9_settleCircles 2 0 0 [vr (some x), vi (nI mm)] h (fun v u => v = none ∧ Fr (fun c => c = m) h u) := by
  refine con_of rfl (Nat.le_of_ble_eq_true rfl) (by decide) ?_
  show J mX9_settleCircles 2 0 0 _ 0 [some (vr (some x)), some (vi (nI mm)), none, none, none] [] h
  refine j_aload_n dX9_settleCircles_0 rfl ?_
  refine j_getR dX9_settleCircles_1 fl_X9_24 rfl k.1.1 k.1.2.1 ?_
  refine j_iconst (v := 0) dX9_settleCircles_4 (by decide) ?_
  refine j_aload_n dX9_settleCircles_5 rfl ?_
  refine j_getR dX9_settleCircles_6 fl_X9_28 rfl k.1.1 k.1.2.2.1 ?_
  refine j_iconst (v := 0) dX9_settleCircles_9 (by decide) ?_
  refine j_iload_n dX9_settleCircles_10 rfl ?_
  refine j_iconst (v := 5) dX9_settleCircles_11 (by decide) ?_
  refine j_imul dX9_settleCircles_12 ?_
  refine j_copyL 0 0 (mm * 5) dX9_settleCircles_13 acp_9 k.2.1.1 k.2.2.1.1 rfl rfl (by rw [li_5, pk_mul]) (by rw [k.2.1.2]; omega) (by rw [k.2.2.1.2]; omega) ⟨by decide, by decide, by omega⟩ (by decide) (Nat.le_of_ble_eq_true rfl) ?_
  refine j_iconst (v := 0) dX9_settleCircles_16 (by decide) ?_
  refine j_istore_n dX9_settleCircles_17 (by decide) ?_
  dsimp only [st1, st2, unL, List.set]
  have hF : Fr (fun c => c = m) h (sG h m (va_cpy (hG h l) (hG h m) 0 0 (mm * 5))) := Fr_sG Fr_rf (Or.inl rfl)
  have k2 := WK_fr k hF (fun e => by have h1 := k.1.1; have h2 := k.2.2.1.1; rw [e] at h1; omega)
  have hz2 : ∀ j, j < 5 → hG (sG h m (va_cpy (hG h l) (hG h m) 0 0 (mm * 5))) t j = 0 := fun j hj => by rw [((hF t (by rw [k.2.2.2.1.1]; decide)).2.2 k.2.2.2.2).2.1]; exact hz j hj
  refine j_post (fun o_ u_ hp_ => ?_) (j_lle (lv' := [some (vr (some x)), some (vi (nI mm)), some (vi (nI 0)), none, none]) (by first | (simp [lle, nI_1]; done) | (simp [lle, nI_1]; rfl)) (l_settleA k2 hz2 hn (mm + 1) 0 (by omega) (by omega)))
  cases o_ with
  | inl v_ => exact ⟨hp_.1, hp_.2 ▸ hF⟩
  | inr E_ => exact hp_

set_option maxRecDepth 20000 in
theorem l_order0 {h : Hp} {x l m t : Nat} {mm : Nat} (k : WK h x l m t) (hz : ∀ j, j < 5 → hG h t j = 0) (hn : mm ≤ 320) : ∀ (n : Nat) (i : Nat), mm - i < n → (i ≤ mm) → J mX9_putInOrder 2 0 0 (nx (fun v u => u = h ∧ v = some (vi 0))) 4 [some (vr (some x)), some (vi (nI mm)), some (vi 0), some (vi (nI i)), none, none, none] [] h := by
  intro n
  induction n with
  | zero => intro i hlt; omega
  | succ n ih =>
    intro i hlt hinv
    refine j_iload_n dX9_putInOrder_4 rfl ?_
    refine j_iload_n dX9_putInOrder_5 rfl ?_
    refine j_icmp_ge 139 dX9_putInOrder_6 (by decide) (fun c_6 => ?_) (fun c_6 => ?_)
    · refine j_iload_n dX9_putInOrder_139 rfl ?_
      exact j_ireturn dX9_putInOrder_140 rfl rfl (⟨rfl, rfl⟩)
    · have hlt2 : i < mm := by rw [nI_leI (by omega) (by omega)] at c_6; omega
      refine j_iconst (v := 0) dX9_putInOrder_9 (by decide) ?_
      refine j_istore dX9_putInOrder_10 (by decide) ?_
      dsimp only [st1, st2, unL, List.set]
      refine j_aload_n dX9_putInOrder_12 rfl ?_
      refine j_iload_n dX9_putInOrder_13 rfl ?_
      refine j_callV1 dX9_putInOrder_14 vl_X9_136 (c_isOpen0 k hz (by omega)) k.1.1 rfl (by decide) (by omega) (by omega) (Nat.le_of_ble_eq_true rfl) (fun v_14 u_14 p_14 => ?_)
      obtain ⟨e_14, rfl⟩ := p_14
      rw [e_14]
      clear e_14
      dsimp only [rs]
      refine j_if_eq 30 dX9_putInOrder_17 (by decide) (fun c_17 => ?_) (fun c_17 => ?_)
      · refine j_iconst (v := 0) dX9_putInOrder_30 (by decide) ?_
        refine j_istore dX9_putInOrder_31 (by decide) ?_
        dsimp only [st1, st2, unL, List.set]
        refine j_iload dX9_putInOrder_33 rfl ?_
        refine j_sipush (v := 640) dX9_putInOrder_35 (by decide) ?_
        refine j_icmp_ge 133 dX9_putInOrder_38 (by decide) (fun c_38 => ?_) (fun c_38 => ?_)
        · exact absurd c_38 (by decide)
        · refine j_iload dX9_putInOrder_41 rfl ?_
          refine j_if_le 133 dX9_putInOrder_43 (by decide) (fun c_43 => ?_) (fun c_43 => ?_)
          · refine j_iinc dX9_putInOrder_133 rfl ?_
            dsimp only [st1, st2, unL, List.set]
            refine j_goto 4 dX9_putInOrder_136 (by decide) ?_
            refine j_lle (lv' := [some (vr (some x)), some (vi (nI mm)), some (vi 0), some (vi (nI (i + 1))), none, none, none]) (by first | (simp [lle, nI_1]; done) | (simp [lle, nI_1]; rfl)) ?_
            exact ih (i + 1) (by omega) (by omega)
          · exact absurd (by decide) c_43
      · exact absurd rfl c_17

set_option maxRecDepth 20000 in
theorem c_order0 {h : Hp} {x l m t : Nat} {mm : Nat} (k : WK h x l m t) (hz : ∀ j, j < 5 → hG h t j = 0) (hn : mm ≤ 320) : Con mX9_putInOrder 2 0 0 [vr (some x), vi (nI mm)] h (fun v u => u = h ∧ v = some (vi 0)) := by
  refine con_of rfl (Nat.le_of_ble_eq_true rfl) (by decide) ?_
  show J mX9_putInOrder 2 0 0 _ 0 [some (vr (some x)), some (vi (nI mm)), none, none, none, none, none] [] h
  refine j_iconst (v := 0) dX9_putInOrder_0 (by decide) ?_
  refine j_istore_n dX9_putInOrder_1 (by decide) ?_
  dsimp only [st1, st2, unL, List.set]
  refine j_iconst (v := 0) dX9_putInOrder_2 (by decide) ?_
  refine j_istore_n dX9_putInOrder_3 (by decide) ?_
  dsimp only [st1, st2, unL, List.set]
  refine j_lle (lv' := [some (vr (some x)), some (vi (nI mm)), some (vi 0), some (vi (nI 0)), none, none, none]) (by first | (simp [lle, nI_1]; done) | (simp [lle, nI_1]; rfl)) ?_
  exact l_order0 k hz hn (mm + 1) 0 (by omega) (by omega)

theorem Sh_p3 {h : Hp} {a ra ca xa nr nc : Nat} {y : Option Nat} (hs : Sh h a ra ca xa nr nc) : Sh (pO h a 3 y) a ra ca xa nr nc := by
  obtain ⟨s1, s2, s3, s4, s5⟩ := hs
  exact ⟨s1, by rw [hO_pO, if_neg (fun z => by have := z.2; omega)]; exact s2, by rw [hO_pO, if_neg (fun z => by have := z.2; omega)]; exact s3, by rw [hO_pO, if_neg (fun z => by have := z.2; omega)]; exact s4, s5⟩
set_option maxRecDepth 20000 in
theorem l_work {h u3 : Hp} {x l m t a ra ca xa r : Nat} (k3 : WK u3 x l m t) (o8 : hO u3 x 8 = some a) (hs3 : Sh u3 a ra ca xa 8 6) (hz3 : ∀ j, j < 48 → hO u3 xa j = none) (hg : ∀ j, j < 5 → hG u3 t j = 0) (hF3 : Fr (fun c => c = x ∨ c = a ∨ c = t ∨ c = m) h u3) : ∀ (n : Nat) (i : Nat), 48 - i < n → (i ≤ 48) → J mX9_work 3 0 0 (nx (fun v u => v = none ∧ Fr (fun c => c = x ∨ c = a ∨ c = t ∨ c = m) h u ∧ Sh u a ra ca xa 8 6 ∧ ∀ j, j < 48 → hO u xa j = none)) 44 [some (vr (some x)), some (vr (some a)), some (vr (some r)), some (vi (nI 48)), some (vi (nI i)), none] [] u3 := by
  intro n
  induction n with
  | zero => intro i hlt; omega
  | succ n ih =>
    intro i hlt hinv
    refine j_iload dX9_work_44 rfl ?_
    refine j_iload_n dX9_work_46 rfl ?_
    refine j_icmp_ge 125 dX9_work_47 (by decide) (fun c_47 => ?_) (fun c_47 => ?_)
    · refine j_aload_n dX9_work_125 rfl ?_
      refine j_iload_n dX9_work_126 rfl ?_
      refine j_callV1 dX9_work_127 vl_X9_75 (c_settle0 k3 hg (by decide)) (by first | exact k3.1.1 | exact k4.1.1) rfl (by decide) (by omega) (by omega) (Nat.le_of_ble_eq_true rfl) (fun v_127 u_127 p_127 => ?_)
      obtain ⟨rfl, hF5⟩ := p_127
      have hF4 : Fr (fun c => c = x ∨ c = a ∨ c = t ∨ c = m) h u_127 := Fr_tr2 hF3 hF5 (fun c _ e => Or.inr (Or.inr (Or.inr e)))
      have hs4 := Sh_fr hF5 (fun e => by have h1 := hs3.1; have h2 := k3.2.2.1.1; rw [e] at h1; omega) hs3
      have hz4 : ∀ j, j < 48 → hO u_127 xa j = none := fun j hj => by rw [((hF5 xa (by rw [hs3.2.2.2.2.2.2.2.2.1]; decide)).2.2 (fun e => by have h1 := hs3.2.2.2.2.2.2.2.2.1; have h2 := k3.2.2.1.1; rw [e] at h1; omega)).2.2]; exact hz3 j hj
      have k4 := WK_fr k3 hF5 (fun e => by have h1 := k3.1.1; have h2 := k3.2.2.1.1; rw [e] at h1; omega)
      have hg4 : ∀ j, j < 5 → hG u_127 t j = 0 := fun j hj => by rw [((hF5 t (by rw [k3.2.2.2.1.1]; decide)).2.2 k3.2.2.2.2).2.1]; exact hg j hj
      dsimp only [rs]
      refine j_aload_n dX9_work_130 rfl ?_
      refine j_iload_n dX9_work_131 rfl ?_
      refine j_callV1 dX9_work_132 vl_X9_78 (c_order0 k4 hg4 (by decide)) (by first | exact k3.1.1 | exact k4.1.1) rfl (by decide) (by omega) (by omega) (Nat.le_of_ble_eq_true rfl) (fun v_132 u_132 p_132 => ?_)
      obtain ⟨e_132, rfl⟩ := p_132
      rw [e_132]
      clear e_132
      dsimp only [rs]
      refine j_istore dX9_work_135 (by decide) ?_
      dsimp only [st1, st2, unL, List.set]
      refine j_iconst (v := 0) dX9_work_137 (by decide) ?_
      refine j_istore dX9_work_138 (by decide) ?_
      dsimp only [st1, st2, unL, List.set]
      refine j_iload dX9_work_140 rfl ?_
      refine j_iload dX9_work_142 rfl ?_
      refine j_icmp_ge 164 dX9_work_144 (by decide) (fun c_144 => ?_) (fun c_144 => ?_)
      · exact j_return dX9_work_164 rfl (⟨rfl, hF4, hs4, hz4⟩)
      · exact absurd (by decide) c_144
    · have hlt2 : i < 48 := by rw [nI_leI (by omega) (by omega)] at c_47; omega
      refine j_aload_n dX9_work_50 rfl ?_
      refine j_getR dX9_work_51 fl_X9_45 rfl k3.1.1 o8 ?_
      refine j_getR dX9_work_54 fl_X9_58 rfl hs3.1 hs3.2.2.2.1 ?_
      refine j_iload dX9_work_57 rfl ?_
      refine j_aald (t := 5) i dX9_work_59 hs3.2.2.2.2.2.2.2.2.1 (by decide) (by decide) rfl (by rw [hs3.2.2.2.2.2.2.2.2.2.1]; omega) (by rw [hs3.2.2.2.2.2.2.2.2.2.1]; decide) ?_
      rw [hz3 _ hlt2]
      refine j_callSN1 dX9_work_60 snl_X9_68 c_isFormulaN rfl (by decide) (by omega) (by omega) (Nat.le_of_ble_eq_true rfl) (fun v_60 u_60 p_60 => ?_)
      obtain ⟨e_60, rfl⟩ := p_60
      rw [e_60]
      clear e_60
      dsimp only [rs]
      refine j_if_eq 119 dX9_work_63 (by decide) (fun c_63 => ?_) (fun c_63 => ?_)
      · refine j_iinc dX9_work_119 rfl ?_
        dsimp only [st1, st2, unL, List.set]
        refine j_goto 44 dX9_work_122 (by decide) ?_
        refine j_lle (lv' := [some (vr (some x)), some (vr (some a)), some (vr (some r)), some (vi (nI 48)), some (vi (nI (i + 1))), none]) (by first | (simp [lle, nI_1]; done) | (simp [lle, nI_1]; rfl)) ?_
        exact ih (i + 1) (by omega) (by omega)
      · exact absurd rfl c_63

set_option maxRecDepth 20000 in
theorem c_work0 {h : Hp} {x l m t a ra ca xa r n : Nat} (k : WK h x l m t) (hs : Sh h a ra ca xa 8 6) (hz : ∀ j, j < 48 → hO h xa j = none) (hr : hK h r = 22) (hn : hN h r = n) (hn1 : 48 ≤ n) (hn2 : n ≤ 320) : Con mX9_work 3 0 0 [vr (some x), vr (some a), vr (some r)] h (fun v u => v = none ∧ Fr (fun c => c = x ∨ c = a ∨ c = t ∨ c = m) h u ∧ Sh u a ra ca xa 8 6 ∧ ∀ j, j < 48 → hO u xa j = none) := by
  refine con_of rfl (Nat.le_of_ble_eq_true rfl) (by decide) ?_
  show J mX9_work 3 0 0 _ 0 [some (vr (some x)), some (vr (some a)), some (vr (some r)), none, none, none] [] h
  refine j_aload_n dX9_work_0 rfl ?_
  refine j_aload_n dX9_work_1 rfl ?_
  refine j_putO dX9_work_2 fl_X9_45 rfl k.1.1 ?_
  refine j_aload_n dX9_work_5 rfl ?_
  refine j_getR dX9_work_6 fl_X9_45 rfl k.1.1 (by rw [hO_pO, if_pos ⟨rfl, rfl⟩]) ?_
  refine j_aload_n dX9_work_9 rfl ?_
  refine j_putO dX9_work_10 fl_X9_49 rfl hs.1 ?_
  have hxa : x ≠ a := fun e => by have h1 := k.1.1; have h2 := hs.1; rw [e] at h1; omega
  have hxx : xa ≠ x := fun e => by have h1 := k.1.1; have h2 := hs.2.2.2.2.2.2.2.2.1; rw [e] at h2; omega
  have hxax : xa ≠ a := fun e => by have h1 := hs.1; have h2 := hs.2.2.2.2.2.2.2.2.1; rw [e] at h2; omega
  have k2 : WK (pO (pO h x 8 (some a)) a 3 (some r)) x l m t := WK_fr (S := fun c => c = a) (WK_pO k) (Fr_pO Fr_rf (Or.inl rfl)) hxa
  have o8 : hO (pO (pO h x 8 (some a)) a 3 (some r)) x 8 = some a := by rw [hO_pO, if_neg (fun z => hxa z.1), hO_pO, if_pos ⟨rfl, rfl⟩]
  have hs2 : Sh (pO (pO h x 8 (some a)) a 3 (some r)) a ra ca xa 8 6 := Sh_p3 (Sh_fr (S := fun c => c = x) (Fr_pO Fr_rf (Or.inl rfl)) (fun e => hxa e.symm) hs)
  have hz2 : ∀ j, j < 48 → hO (pO (pO h x 8 (some a)) a 3 (some r)) xa j = none := fun j hj => by rw [hO_pO, if_neg (fun z => hxax z.1), hO_pO, if_neg (fun z => hxx z.1)]; exact hz j hj
  refine j_aload_n dX9_work_13 rfl ?_
  refine j_getR dX9_work_14 fl_X9_31 rfl k2.1.1 k2.1.2.2.2 ?_
  refine j_iconst (v := 0) dX9_work_17 (by decide) ?_
  refine j_callS2 dX9_work_18 sl_X9_54 (c_clear k2.2.2.2.1.1 k2.2.2.2.1.2) rfl (by decide) (by omega) (by omega) (Nat.le_of_ble_eq_true rfl) (fun v_18 u_18 p_18 => ?_)
  obtain ⟨rfl, hF2, hg⟩ := p_18
  have hxt : x ≠ t := fun e => by have h1 := k.1.1; have h2 := k.2.2.2.1.1; rw [e] at h1; omega
  have hat : a ≠ t := fun e => by have h1 := hs.1; have h2 := k.2.2.2.1.1; rw [e] at h1; omega
  have hxt2 : xa ≠ t := fun e => by have h1 := hs.2.2.2.2.2.2.2.2.1; have h2 := k.2.2.2.1.1; rw [e] at h1; omega
  have k3 := WK_fr k2 hF2 hxt
  have o83 : hO u_18 x 8 = some a := Fr_O hF2 k2.1.1 (by decide) hxt o8
  have hs3 := Sh_fr hF2 hat hs2
  have hz3 : ∀ j, j < 48 → hO u_18 xa j = none := fun j hj => Fr_O hF2 hs2.2.2.2.2.2.2.2.2.1 (by decide) hxt2 (hz2 j hj)
  have hF3 : Fr (fun c => c = x ∨ c = a ∨ c = t ∨ c = m) h u_18 := Fr_tr2 (Fr_pO (Fr_pO Fr_rf (Or.inl (Or.inl rfl))) (Or.inl (Or.inr (Or.inl rfl)))) hF2 (fun c _ e => Or.inr (Or.inr (Or.inl e)))
  have hr3 := Fr_K hF3 hr (by decide)
  have hn3 := Fr_N hF3 hr (by decide) hn
  dsimp only [rs]
  refine j_aload_n dX9_work_21 rfl ?_
  refine j_getR dX9_work_22 fl_X9_45 rfl k3.1.1 o83 ?_
  refine j_getR dX9_work_25 fl_X9_58 rfl hs3.1 hs3.2.2.2.1 ?_
  refine j_alen dX9_work_28 (t := 5) hs3.2.2.2.2.2.2.2.2.1 (by decide) ?_
  rw [hs3.2.2.2.2.2.2.2.2.2.1]
  refine j_aload_n dX9_work_29 rfl ?_
  refine j_alen dX9_work_30 (t := 8) hr3 (by decide) ?_
  rw [hn3]
  refine j_mmin dX9_work_31 sl_X9_62 (by decide) (Nat.le_of_ble_eq_true rfl) ?_
  rw [show (if nI n < nI (8 * 6) then nI n else nI (8 * 6)) = nI 48 from if_neg (by rw [nI_ltI (by omega) (by decide)]; omega)]
  refine j_sipush (v := 320) dX9_work_34 (by decide) ?_
  refine j_mmin dX9_work_37 sl_X9_62 (by decide) (Nat.le_of_ble_eq_true rfl) ?_
  rw [show (if (320 : Int32) < nI 48 then (320 : Int32) else nI 48) = nI 48 from if_neg (by decide)]
  refine j_istore_n dX9_work_40 (by decide) ?_
  dsimp only [st1, st2, unL, List.set]
  refine j_iconst (v := 0) dX9_work_41 (by decide) ?_
  refine j_istore dX9_work_42 (by decide) ?_
  dsimp only [st1, st2, unL, List.set]
  refine j_lle (lv' := [some (vr (some x)), some (vr (some a)), some (vr (some r)), some (vi (nI 48)), some (vi (nI 0)), none]) (by first | (simp [lle, nI_1]; done) | (simp [lle, nI_1]; rfl)) ?_
  exact l_work k3 o83 hs3 hz3 hg hF3 49 0 (by omega) (by omega)

