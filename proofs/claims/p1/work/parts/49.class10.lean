/-! ===== the system on a fresh object: sheets of other shape, cells copied ===== -/
theorem Cel_ex {h u : Hp} {xa n k : Nat} (hE : Ex h u) (hk : hK h xa = k + 1) (hc : Cel h xa n) : Cel u xa n := fun j v hj hv => by
  rw [((hE xa (by omega)).2.2 (fun z => z)).2.2] at hv
  exact Fr_K hE (hc j v hj hv) (by decide)
theorem atG_c {h : Hp} {xa nr nc p q v : Nat} (hc : Cel h xa (nr * nc)) (hp : p ≤ nr) (hq : q ≤ nc) (e : atG h xa nc p q = some v) : hK h v = 2 := by
  rw [atG] at e
  split at e
  · cases e
  · rename_i w
    exact hc _ v (rc_lt (by omega) (by omega)) e
theorem FS_pI {h : Hp} {b : Nat → Nat} {w k : Nat} {x : Int32} (f : FS h b w) (ne : b 6 ≠ b 0) : FS (pI h (b 0) k x) b w := by
  obtain ⟨a1, a2, a3, a4, a5, a6, a7, a8, a9⟩ := f
  exact ⟨a1, a2, a3, a4, a5, a6, a7, a8, by rw [hI_pI, if_neg (fun e => ne e.1)]; exact a9⟩
set_option maxRecDepth 20000 in
theorem l_shp0b {h : Hp} {a ra ca xa nr nc la m : Nat} {q xq i p : Nat} (hs : Sh h a ra ca xa nr nc) (hc : Cel h xa (nr * nc)) (k1 : hK h la = 15) (k2 : hN h la = m) (m1 : 1 ≤ m) (m2 : m ≤ 32) (hq0 : hK h q = 0) (hxq0 : hK h xq = 0) (hi : i < m) (hp : p ≤ nr) (fin : ∀ u, Ex h u ∧ Sh u q la ca xq m nc → J mX6_shapedAlong 3 0 0 (nx (fun v u => ∃ q2, v = some (vr (some q2)) ∧ hK h q2 = 0 ∧ hK u q2 = 7 ∧ Ex h u)) 118 [some (vr (some a)), some (vi 0), some (vr (some la)), some (vr (some q)), some (vi (nI i)), none, none] [] u) : ∀ (n : Nat) (k : Nat) (u : Hp), nc - k < n → (k ≤ nc ∧ Ex h u ∧ Sh u q la ca xq m nc) → J mX6_shapedAlong 3 0 0 (nx (fun v u => ∃ q2, v = some (vr (some q2)) ∧ hK h q2 = 0 ∧ hK u q2 = 7 ∧ Ex h u)) 56 [some (vr (some a)), some (vi 0), some (vr (some la)), some (vr (some q)), some (vi (nI i)), some (vi (nI p)), some (vi (nI (k + 1)))] [] u := by
  intro n
  induction n with
  | zero => intro k u hlt; omega
  | succ n ih =>
    intro k u hlt hinv
    obtain ⟨hk, hEv⟩ := hinv
    obtain ⟨hE, hS⟩ := hEv
    have hsU := Sh_fr hE (fun z => z) hs
    have hcU : Cel u xa (nr * nc) := Cel_ex hE hs.2.2.2.2.2.2.2.2.1 hc
    obtain ⟨-, -, -, -, -, -, -, -, -, -, l1, l2, l3, l4⟩ := id hs
    refine j_iload dX6_shapedAlong_56 rfl ?_
    refine j_aload_n dX6_shapedAlong_58 rfl ?_
    refine j_iconst (v := 1) dX6_shapedAlong_59 (by decide) ?_
    refine j_iload_n dX6_shapedAlong_60 rfl ?_
    refine j_isub dX6_shapedAlong_61 ?_
    rw [show (1 : Int32) - 0 = 1 from rfl]
    refine j_callV1 dX6_shapedAlong_62 vl_X6_36 (c_line1 hsU) (by first | exact hS.1 | exact hsU.1) rfl (by decide) (by omega) (by omega) (Nat.le_of_ble_eq_true rfl) (fun v_62 u_62 p_62 => ?_)
    obtain ⟨e_62, rfl⟩ := p_62
    rw [e_62]
    clear e_62
    dsimp only [rs]
    refine j_alen dX6_shapedAlong_65 (t := 1) hsU.2.2.2.2.2.2.1 (by decide) ?_
    rw [hsU.2.2.2.2.2.2.2.1]
    refine j_icmp_gt 118 dX6_shapedAlong_66 (by decide) (fun c_66 => ?_) (fun c_66 => ?_)
    · exact j_lle (by simp [lle]) (fin _ ⟨hE, hS⟩)
    · have hlt2 : k < nc := by rw [nI_ltI (by omega) (by omega)] at c_66; omega
      refine j_iload_n dX6_shapedAlong_69 rfl ?_
      refine j_if_ne 94 dX6_shapedAlong_70 (by decide) (fun c_70 => ?_) (fun c_70 => ?_)
      · exact absurd c_70 (fun e => e rfl)
      · refine j_aload_n dX6_shapedAlong_73 rfl ?_
        refine j_iload dX6_shapedAlong_74 rfl ?_
        refine j_iconst (v := 1) dX6_shapedAlong_76 (by decide) ?_
        refine j_iadd dX6_shapedAlong_77 ?_
        rw [nI_1]
        refine j_iload dX6_shapedAlong_78 rfl ?_
        refine j_aload_n dX6_shapedAlong_80 rfl ?_
        refine j_iload dX6_shapedAlong_81 rfl ?_
        refine j_iload dX6_shapedAlong_83 rfl ?_
        refine j_callV2 dX6_shapedAlong_85 vl_X6_32 (c_atG p (k + 1) hp (by omega) hsU) (by first | exact hS.1 | exact hsU.1) rfl (by decide) (by omega) (by omega) (Nat.le_of_ble_eq_true rfl) (fun v_85 u_85 p_85 => ?_)
        obtain ⟨e_85, rfl⟩ := p_85
        rw [e_85]
        clear e_85
        dsimp only [rs]
        refine j_callV3 dX6_shapedAlong_88 vl_X6_43 (c_put i k (by omega) (by omega) (fun v e => atG_c hcU hp (by omega) e) hS) (by first | exact hS.1 | exact hsU.1) rfl (by decide) (by omega) (by omega) (Nat.le_of_ble_eq_true rfl) (fun v_88 u_88 p_88 => ?_)
        obtain ⟨rfl, rfl⟩ := p_88
        dsimp only [rs]
        refine j_goto 112 dX6_shapedAlong_91 (by decide) ?_
        refine j_iinc dX6_shapedAlong_112 rfl ?_
        dsimp only [st1, st2, unL, List.set]
        refine j_goto 56 dX6_shapedAlong_115 (by decide) ?_
        refine j_lle (lv' := [some (vr (some a)), some (vi 0), some (vr (some la)), some (vr (some q)), some (vi (nI i)), some (vi (nI p)), some (vi (nI (k + 1 + 1)))]) (by simp [lle, nI_1]) ?_
        exact ih (k + 1) _ (by omega) ⟨by omega, Fr_pO hE (Or.inr hxq0), Sh_pO hS⟩

set_option maxRecDepth 20000 in
theorem l_shp0a {h : Hp} {a ra ca xa nr nc la m : Nat} {q xq : Nat} (hs : Sh h a ra ca xa nr nc) (hc : Cel h xa (nr * nc)) (k1 : hK h la = 15) (k2 : hN h la = m) (m1 : 1 ≤ m) (m2 : m ≤ 32) (hq0 : hK h q = 0) (hxq0 : hK h xq = 0) : ∀ (n : Nat) (i : Nat) (u : Hp), m - i < n → (i ≤ m ∧ Ex h u ∧ Sh u q la ca xq m nc) → J mX6_shapedAlong 3 0 0 (nx (fun v u => ∃ q2, v = some (vr (some q2)) ∧ hK h q2 = 0 ∧ hK u q2 = 7 ∧ Ex h u)) 35 [some (vr (some a)), some (vi 0), some (vr (some la)), some (vr (some q)), some (vi (nI i)), none, none] [] u := by
  intro n
  induction n with
  | zero => intro i u hlt; omega
  | succ n ih =>
    intro i u hlt hinv
    obtain ⟨hi, hEv⟩ := hinv
    obtain ⟨hE, hS⟩ := hEv
    have hsU := Sh_fr hE (fun z => z) hs
    have hcU : Cel u xa (nr * nc) := Cel_ex hE hs.2.2.2.2.2.2.2.2.1 hc
    refine j_iload dX6_shapedAlong_35 rfl ?_
    refine j_aload_n dX6_shapedAlong_37 rfl ?_
    refine j_alen dX6_shapedAlong_38 (t := 1) (Fr_K hE k1 (by decide)) (by decide) ?_
    rw [Fr_N hE k1 (by decide) k2]
    refine j_icmp_ge 124 dX6_shapedAlong_39 (by decide) (fun c_39 => ?_) (fun c_39 => ?_)
    · refine j_aload_n dX6_shapedAlong_124 rfl ?_
      exact j_areturn dX6_shapedAlong_125 rfl rfl ⟨q, rfl, hq0, hS.1, hE⟩
    · have hlt2 : i < m := by rw [nI_leI (by omega) (by omega)] at c_39; omega
      refine j_aload_n dX6_shapedAlong_42 rfl ?_
      refine j_iload_n dX6_shapedAlong_43 rfl ?_
      refine j_aload_n dX6_shapedAlong_44 rfl ?_
      refine j_iload dX6_shapedAlong_45 rfl ?_
      refine j_iald i dX6_shapedAlong_47 (Fr_K hE k1 (by decide)) rfl (by rw [Fr_N hE k1 (by decide) k2]; omega) (by rw [Fr_N hE k1 (by decide) k2]; omega) ?_
      refine j_callV2 dX6_shapedAlong_48 vl_X6_28 (c_placeOf0 _ hsU) hsU.1 rfl (by decide) (by omega) (by omega) (Nat.le_of_ble_eq_true rfl) (fun v_48 u_48 p_48 => ?_)
      obtain ⟨e_48, rfl⟩ := p_48
      rw [e_48]
      clear e_48
      dsimp only [rs]
      refine j_istore dX6_shapedAlong_51 (by decide) ?_
      dsimp only [st1, st2, unL, List.set]
      refine j_iconst (v := 1) dX6_shapedAlong_53 (by decide) ?_
      refine j_istore dX6_shapedAlong_54 (by decide) ?_
      dsimp only [st1, st2, unL, List.set]
      have hp := pl1_le (hI u ra) (hI u la i) (hN u ra)
      rw [hsU.2.2.2.2.2.1] at hp ⊢
      generalize pl1 (hI u ra) (hI u la i) nr = p at hp ⊢
      refine j_lle (lv' := [some (vr (some a)), some (vi 0), some (vr (some la)), some (vr (some q)), some (vi (nI i)), some (vi (nI p)), some (vi (nI (0 + 1)))]) (by simp [lle]; rfl) ?_
      refine l_shp0b hs hc k1 k2 m1 m2 hq0 hxq0 hlt2 hp (fun u2 hu2 => ?_) (nc + 1) 0 _ (by omega) ⟨by omega, hE, hS⟩
      refine j_iinc dX6_shapedAlong_118 rfl ?_
      dsimp only [st1, st2, unL, List.set]
      refine j_goto 35 dX6_shapedAlong_121 (by decide) ?_
      refine j_lle (lv' := [some (vr (some a)), some (vi 0), some (vr (some la)), some (vr (some q)), some (vi (nI (i + 1))), none, none]) (by simp [lle, nI_1]) ?_
      exact ih (i + 1) _ (by omega) ⟨by omega, hu2⟩

set_option maxRecDepth 20000 in
theorem c_shaped0 {h : Hp} {a ra ca xa nr nc la m : Nat} (hs : Sh h a ra ca xa nr nc) (hc : Cel h xa (nr * nc)) (k1 : hK h la = 15) (k2 : hN h la = m) (m1 : 1 ≤ m) (m2 : m ≤ 32) : Con mX6_shapedAlong 3 2 324 [vr (some a), vi 0, vr (some la)] h (fun v u => ∃ q2, v = some (vr (some q2)) ∧ hK h q2 = 0 ∧ hK u q2 = 7 ∧ Ex h u) := by
  obtain ⟨-, -, -, -, -, -, -, -, -, -, l1, l2, l3, l4⟩ := id hs
  refine con_of rfl (Nat.le_of_ble_eq_true rfl) (by decide) ?_
  show J mX6_shapedAlong 3 2 324 _ 0 [some (vr (some a)), some (vi 0), some (vr (some la)), none, none, none, none] [] h
  refine j_mono (mc' := 1 + 1) (ms' := 320 + fnum 6) (by first | decide | omega) (by first | decide | (simp only [fnum]; omega)) ?_
  refine j_new dX6_shapedAlong_0 cl_6 nl_X6_10 iw_6 zw_6 (fun q_0 hq_0 => ?_)
  refine j_dup dX6_shapedAlong_3 rfl ?_
  have fx : Ex h (nw h q_0 (6 + 1) 0) := Fr_nw Fr_rf hq_0
  have ga : hK (nw h q_0 (6 + 1) 0) q_0 = 7 := by rw [hK_nw, if_pos rfl]
  have hs1 := Sh_fr fx (fun z => z) hs
  generalize nw h q_0 (6 + 1) 0 = h1 at fx ga hs1 ⊢
  refine j_iload_n dX6_shapedAlong_4 rfl ?_
  refine j_if_ne 12 dX6_shapedAlong_5 (by decide) (fun c_5 => ?_) (fun c_5 => ?_)
  · exact absurd c_5 (fun e => e rfl)
  · refine j_aload_n dX6_shapedAlong_8 rfl ?_
    refine j_goto 16 dX6_shapedAlong_9 (by decide) ?_
    refine j_iload_n dX6_shapedAlong_16 rfl ?_
    refine j_if_ne 27 dX6_shapedAlong_17 (by decide) (fun c_17 => ?_) (fun c_17 => ?_)
    · exact absurd c_17 (fun e => e rfl)
    · refine j_aload_n dX6_shapedAlong_20 rfl ?_
      refine j_getR dX6_shapedAlong_21 fl_X6_15 rfl hs1.1 hs1.2.2.1 ?_
      refine j_goto 28 dX6_shapedAlong_24 (by decide) ?_
      refine j_callI2 dX6_shapedAlong_28 il_X6_40 (c_shInit ga (Fr_K fx k1 (by decide)) (Fr_N fx k1 (by decide) k2) hs1.2.2.2.2.2.2.1 hs1.2.2.2.2.2.2.2.1 m2 l4) rfl (by decide) (by omega) (by omega) (Nat.le_of_ble_eq_true rfl) (fun v_28 u_28 p_28 => ?_)
      obtain ⟨rfl, xq, hq1, hu⟩ := p_28
      obtain ⟨s1, s2, fr, s4, s5⟩ := shInit_ok ga (Fr_K fx k1 (by decide)) (Fr_N fx k1 (by decide) k2) hs1.2.2.2.2.2.2.1 hs1.2.2.2.2.2.2.2.1 m1 m2 l3 l4 hq1 hu
      have hxq0 : hK h xq = 0 := Classical.byContradiction fun z => by rw [(fx xq z).1] at hq1; exact z hq1
      have hE : Ex h u_28 := Fr_tr2 fx fr (fun b hb z => by subst z; exact hb hq_0)
      dsimp only [rs]
      refine j_astore_n dX6_shapedAlong_31 (by decide) ?_
      dsimp only [st1, st2, unL, List.set]
      refine j_iconst (v := 0) dX6_shapedAlong_32 (by decide) ?_
      refine j_istore dX6_shapedAlong_33 (by decide) ?_
      dsimp only [st1, st2, unL, List.set]
      refine j_lle (lv' := [some (vr (some a)), some (vi 0), some (vr (some la)), some (vr (some q_0)), some (vi (nI 0)), none, none]) (by simp [lle]; rfl) ?_
      refine j_mono (mc' := 0) (ms' := 0) (by omega) (by omega) ?_
      exact l_shp0a hs hc k1 k2 m1 m2 hq_0 hxq0 (m + 1) 0 _ (by omega) ⟨by omega, hE, s1⟩

set_option maxRecDepth 20000 in
theorem l_shp1b {h : Hp} {a ra ca xa nr nc la m : Nat} {q xq i p : Nat} (hs : Sh h a ra ca xa nr nc) (hc : Cel h xa (nr * nc)) (k1 : hK h la = 15) (k2 : hN h la = m) (m1 : 1 ≤ m) (m2 : m ≤ 10) (hq0 : hK h q = 0) (hxq0 : hK h xq = 0) (hi : i < m) (hp : p ≤ nc) (fin : ∀ u, Ex h u ∧ Sh u q ra la xq nr m → J mX6_shapedAlong 3 0 0 (nx (fun v u => ∃ q2, v = some (vr (some q2)) ∧ hK h q2 = 0 ∧ hK u q2 = 7 ∧ Ex h u)) 118 [some (vr (some a)), some (vi 1), some (vr (some la)), some (vr (some q)), some (vi (nI i)), none, none] [] u) : ∀ (n : Nat) (k : Nat) (u : Hp), nr - k < n → (k ≤ nr ∧ Ex h u ∧ Sh u q ra la xq nr m) → J mX6_shapedAlong 3 0 0 (nx (fun v u => ∃ q2, v = some (vr (some q2)) ∧ hK h q2 = 0 ∧ hK u q2 = 7 ∧ Ex h u)) 56 [some (vr (some a)), some (vi 1), some (vr (some la)), some (vr (some q)), some (vi (nI i)), some (vi (nI p)), some (vi (nI (k + 1)))] [] u := by
  intro n
  induction n with
  | zero => intro k u hlt; omega
  | succ n ih =>
    intro k u hlt hinv
    obtain ⟨hk, hEv⟩ := hinv
    obtain ⟨hE, hS⟩ := hEv
    have hsU := Sh_fr hE (fun z => z) hs
    have hcU : Cel u xa (nr * nc) := Cel_ex hE hs.2.2.2.2.2.2.2.2.1 hc
    obtain ⟨-, -, -, -, -, -, -, -, -, -, l1, l2, l3, l4⟩ := id hs
    refine j_iload dX6_shapedAlong_56 rfl ?_
    refine j_aload_n dX6_shapedAlong_58 rfl ?_
    refine j_iconst (v := 1) dX6_shapedAlong_59 (by decide) ?_
    refine j_iload_n dX6_shapedAlong_60 rfl ?_
    refine j_isub dX6_shapedAlong_61 ?_
    rw [show (1 : Int32) - 1 = 0 from rfl]
    refine j_callV1 dX6_shapedAlong_62 vl_X6_36 (c_line0 hsU) (by first | exact hS.1 | exact hsU.1) rfl (by decide) (by omega) (by omega) (Nat.le_of_ble_eq_true rfl) (fun v_62 u_62 p_62 => ?_)
    obtain ⟨e_62, rfl⟩ := p_62
    rw [e_62]
    clear e_62
    dsimp only [rs]
    refine j_alen dX6_shapedAlong_65 (t := 1) hsU.2.2.2.2.1 (by decide) ?_
    rw [hsU.2.2.2.2.2.1]
    refine j_icmp_gt 118 dX6_shapedAlong_66 (by decide) (fun c_66 => ?_) (fun c_66 => ?_)
    · exact j_lle (by simp [lle]) (fin _ ⟨hE, hS⟩)
    · have hlt2 : k < nr := by rw [nI_ltI (by omega) (by omega)] at c_66; omega
      refine j_iload_n dX6_shapedAlong_69 rfl ?_
      refine j_if_ne 94 dX6_shapedAlong_70 (by decide) (fun c_70 => ?_) (fun c_70 => ?_)
      · refine j_aload_n dX6_shapedAlong_94 rfl ?_
        refine j_iload dX6_shapedAlong_95 rfl ?_
        refine j_iload dX6_shapedAlong_97 rfl ?_
        refine j_iconst (v := 1) dX6_shapedAlong_99 (by decide) ?_
        refine j_iadd dX6_shapedAlong_100 ?_
        rw [nI_1]
        refine j_aload_n dX6_shapedAlong_101 rfl ?_
        refine j_iload dX6_shapedAlong_102 rfl ?_
        refine j_iload dX6_shapedAlong_104 rfl ?_
        refine j_callV2 dX6_shapedAlong_106 vl_X6_32 (c_atG (k + 1) p (by omega) hp hsU) (by first | exact hS.1 | exact hsU.1) rfl (by decide) (by omega) (by omega) (Nat.le_of_ble_eq_true rfl) (fun v_106 u_106 p_106 => ?_)
        obtain ⟨e_106, rfl⟩ := p_106
        rw [e_106]
        clear e_106
        dsimp only [rs]
        refine j_callV3 dX6_shapedAlong_109 vl_X6_43 (c_put k i (by omega) (by omega) (fun v e => atG_c hcU (by omega) hp e) hS) (by first | exact hS.1 | exact hsU.1) rfl (by decide) (by omega) (by omega) (Nat.le_of_ble_eq_true rfl) (fun v_109 u_109 p_109 => ?_)
        obtain ⟨rfl, rfl⟩ := p_109
        dsimp only [rs]
        refine j_iinc dX6_shapedAlong_112 rfl ?_
        dsimp only [st1, st2, unL, List.set]
        refine j_goto 56 dX6_shapedAlong_115 (by decide) ?_
        refine j_lle (lv' := [some (vr (some a)), some (vi 1), some (vr (some la)), some (vr (some q)), some (vi (nI i)), some (vi (nI p)), some (vi (nI (k + 1 + 1)))]) (by simp [lle, nI_1]) ?_
        exact ih (k + 1) _ (by omega) ⟨by omega, Fr_pO hE (Or.inr hxq0), Sh_pO hS⟩
      · exact absurd (by decide) c_70

set_option maxRecDepth 20000 in
theorem l_shp1a {h : Hp} {a ra ca xa nr nc la m : Nat} {q xq : Nat} (hs : Sh h a ra ca xa nr nc) (hc : Cel h xa (nr * nc)) (k1 : hK h la = 15) (k2 : hN h la = m) (m1 : 1 ≤ m) (m2 : m ≤ 10) (hq0 : hK h q = 0) (hxq0 : hK h xq = 0) : ∀ (n : Nat) (i : Nat) (u : Hp), m - i < n → (i ≤ m ∧ Ex h u ∧ Sh u q ra la xq nr m) → J mX6_shapedAlong 3 0 0 (nx (fun v u => ∃ q2, v = some (vr (some q2)) ∧ hK h q2 = 0 ∧ hK u q2 = 7 ∧ Ex h u)) 35 [some (vr (some a)), some (vi 1), some (vr (some la)), some (vr (some q)), some (vi (nI i)), none, none] [] u := by
  intro n
  induction n with
  | zero => intro i u hlt; omega
  | succ n ih =>
    intro i u hlt hinv
    obtain ⟨hi, hEv⟩ := hinv
    obtain ⟨hE, hS⟩ := hEv
    have hsU := Sh_fr hE (fun z => z) hs
    have hcU : Cel u xa (nr * nc) := Cel_ex hE hs.2.2.2.2.2.2.2.2.1 hc
    refine j_iload dX6_shapedAlong_35 rfl ?_
    refine j_aload_n dX6_shapedAlong_37 rfl ?_
    refine j_alen dX6_shapedAlong_38 (t := 1) (Fr_K hE k1 (by decide)) (by decide) ?_
    rw [Fr_N hE k1 (by decide) k2]
    refine j_icmp_ge 124 dX6_shapedAlong_39 (by decide) (fun c_39 => ?_) (fun c_39 => ?_)
    · refine j_aload_n dX6_shapedAlong_124 rfl ?_
      exact j_areturn dX6_shapedAlong_125 rfl rfl ⟨q, rfl, hq0, hS.1, hE⟩
    · have hlt2 : i < m := by rw [nI_leI (by omega) (by omega)] at c_39; omega
      refine j_aload_n dX6_shapedAlong_42 rfl ?_
      refine j_iload_n dX6_shapedAlong_43 rfl ?_
      refine j_aload_n dX6_shapedAlong_44 rfl ?_
      refine j_iload dX6_shapedAlong_45 rfl ?_
      refine j_iald i dX6_shapedAlong_47 (Fr_K hE k1 (by decide)) rfl (by rw [Fr_N hE k1 (by decide) k2]; omega) (by rw [Fr_N hE k1 (by decide) k2]; omega) ?_
      refine j_callV2 dX6_shapedAlong_48 vl_X6_28 (c_placeOf1 _ hsU) hsU.1 rfl (by decide) (by omega) (by omega) (Nat.le_of_ble_eq_true rfl) (fun v_48 u_48 p_48 => ?_)
      obtain ⟨e_48, rfl⟩ := p_48
      rw [e_48]
      clear e_48
      dsimp only [rs]
      refine j_istore dX6_shapedAlong_51 (by decide) ?_
      dsimp only [st1, st2, unL, List.set]
      refine j_iconst (v := 1) dX6_shapedAlong_53 (by decide) ?_
      refine j_istore dX6_shapedAlong_54 (by decide) ?_
      dsimp only [st1, st2, unL, List.set]
      have hp := pl1_le (hI u ca) (hI u la i) (hN u ca)
      rw [hsU.2.2.2.2.2.2.2.1] at hp ⊢
      generalize pl1 (hI u ca) (hI u la i) nc = p at hp ⊢
      refine j_lle (lv' := [some (vr (some a)), some (vi 1), some (vr (some la)), some (vr (some q)), some (vi (nI i)), some (vi (nI p)), some (vi (nI (0 + 1)))]) (by simp [lle]; rfl) ?_
      refine l_shp1b hs hc k1 k2 m1 m2 hq0 hxq0 hlt2 hp (fun u2 hu2 => ?_) (nr + 1) 0 _ (by omega) ⟨by omega, hE, hS⟩
      refine j_iinc dX6_shapedAlong_118 rfl ?_
      dsimp only [st1, st2, unL, List.set]
      refine j_goto 35 dX6_shapedAlong_121 (by decide) ?_
      refine j_lle (lv' := [some (vr (some a)), some (vi 1), some (vr (some la)), some (vr (some q)), some (vi (nI (i + 1))), none, none]) (by simp [lle, nI_1]) ?_
      exact ih (i + 1) _ (by omega) ⟨by omega, hu2⟩

set_option maxRecDepth 20000 in
theorem c_shaped1 {h : Hp} {a ra ca xa nr nc la m : Nat} (hs : Sh h a ra ca xa nr nc) (hc : Cel h xa (nr * nc)) (k1 : hK h la = 15) (k2 : hN h la = m) (m1 : 1 ≤ m) (m2 : m ≤ 10) : Con mX6_shapedAlong 3 2 324 [vr (some a), vi 1, vr (some la)] h (fun v u => ∃ q2, v = some (vr (some q2)) ∧ hK h q2 = 0 ∧ hK u q2 = 7 ∧ Ex h u) := by
  obtain ⟨-, -, -, -, -, -, -, -, -, -, l1, l2, l3, l4⟩ := id hs
  refine con_of rfl (Nat.le_of_ble_eq_true rfl) (by decide) ?_
  show J mX6_shapedAlong 3 2 324 _ 0 [some (vr (some a)), some (vi 1), some (vr (some la)), none, none, none, none] [] h
  refine j_mono (mc' := 1 + 1) (ms' := 320 + fnum 6) (by first | decide | omega) (by first | decide | (simp only [fnum]; omega)) ?_
  refine j_new dX6_shapedAlong_0 cl_6 nl_X6_10 iw_6 zw_6 (fun q_0 hq_0 => ?_)
  refine j_dup dX6_shapedAlong_3 rfl ?_
  have fx : Ex h (nw h q_0 (6 + 1) 0) := Fr_nw Fr_rf hq_0
  have ga : hK (nw h q_0 (6 + 1) 0) q_0 = 7 := by rw [hK_nw, if_pos rfl]
  have hs1 := Sh_fr fx (fun z => z) hs
  generalize nw h q_0 (6 + 1) 0 = h1 at fx ga hs1 ⊢
  refine j_iload_n dX6_shapedAlong_4 rfl ?_
  refine j_if_ne 12 dX6_shapedAlong_5 (by decide) (fun c_5 => ?_) (fun c_5 => ?_)
  · refine j_aload_n dX6_shapedAlong_12 rfl ?_
    refine j_getR dX6_shapedAlong_13 fl_X6_9 rfl hs1.1 hs1.2.1 ?_
    refine j_iload_n dX6_shapedAlong_16 rfl ?_
    refine j_if_ne 27 dX6_shapedAlong_17 (by decide) (fun c_17 => ?_) (fun c_17 => ?_)
    · refine j_aload_n dX6_shapedAlong_27 rfl ?_
      refine j_callI2 dX6_shapedAlong_28 il_X6_40 (c_shInit ga hs1.2.2.2.2.1 hs1.2.2.2.2.2.1 (Fr_K fx k1 (by decide)) (Fr_N fx k1 (by decide) k2) l2 m2) rfl (by decide) (by omega) (by omega) (Nat.le_of_ble_eq_true rfl) (fun v_28 u_28 p_28 => ?_)
      obtain ⟨rfl, xq, hq1, hu⟩ := p_28
      obtain ⟨s1, s2, fr, s4, s5⟩ := shInit_ok ga hs1.2.2.2.2.1 hs1.2.2.2.2.2.1 (Fr_K fx k1 (by decide)) (Fr_N fx k1 (by decide) k2) l1 l2 m1 m2 hq1 hu
      have hxq0 : hK h xq = 0 := Classical.byContradiction fun z => by rw [(fx xq z).1] at hq1; exact z hq1
      have hE : Ex h u_28 := Fr_tr2 fx fr (fun b hb z => by subst z; exact hb hq_0)
      dsimp only [rs]
      refine j_astore_n dX6_shapedAlong_31 (by decide) ?_
      dsimp only [st1, st2, unL, List.set]
      refine j_iconst (v := 0) dX6_shapedAlong_32 (by decide) ?_
      refine j_istore dX6_shapedAlong_33 (by decide) ?_
      dsimp only [st1, st2, unL, List.set]
      refine j_lle (lv' := [some (vr (some a)), some (vi 1), some (vr (some la)), some (vr (some q_0)), some (vi (nI 0)), none, none]) (by simp [lle]; rfl) ?_
      refine j_mono (mc' := 0) (ms' := 0) (by omega) (by omega) ?_
      exact l_shp1a hs hc k1 k2 m1 m2 hq_0 hxq0 (m + 1) 0 _ (by omega) ⟨by omega, hE, s1⟩
    · exact absurd (by decide) c_17
  · exact absurd (by decide) c_5

set_option maxRecDepth 20000 in
theorem d_insert0 {h : Hp} {b : Nat → Nat} {w xw : Nat} (y : Int32) (fc : FC h b w xw) : ConX mX11_insert 6 4 370 [vr (some (b 0)), vi 0, vi y] h (px h b w xw ["java/lang/IllegalArgumentException", "java/lang/IndexOutOfBoundsException", "java/lang/IllegalStateException"] (if 1 ≤ y ∧ y ≤ 9 then 0 else 2) (if 1 ≤ y ∧ y ≤ 9 then 9 else 0)) := by
  refine con_ofX rfl (Nat.le_of_ble_eq_true rfl) (by decide) (by decide) ?_
  show J mX11_insert 6 4 370 _ 0 [some (vr (some (b 0))), some (vi 0), some (vi y), none, none] [] h
  refine j_iload_n dX11_insert_0 rfl ?_
  refine j_callS1 dX11_insert_1 sl_X11_156 (c_isAxis _) rfl (by decide) (by omega) (by omega) (Nat.le_of_ble_eq_true rfl) (fun v_1 u_1 p_1 => ?_)
  obtain ⟨e_1, rfl⟩ := p_1
  rw [e_1]
  clear e_1
  dsimp only [rs]
  refine j_if_ne 15 dX11_insert_4 (by decide) (fun c_4 => ?_) (fun c_4 => ?_)
  · refine j_aload_n dX11_insert_15 rfl ?_
    refine j_getR dX11_insert_16 fl_X11_104 rfl (fcK fc 0 rfl rfl) (fcW fc) ?_
    refine j_iload_n dX11_insert_19 rfl ?_
    refine j_callV1 dX11_insert_20 vl_X11_160 (c_line0 (fcS fc)) (fcS fc).1 rfl (by decide) (by omega) (by omega) (Nat.le_of_ble_eq_true rfl) (fun v_20 u_20 p_20 => ?_)
    obtain ⟨e_20, rfl⟩ := p_20
    rw [e_20]
    clear e_20
    dsimp only [rs]
    refine j_astore_n dX11_insert_23 (by decide) ?_
    dsimp only [st1, st2, unL, List.set]
    refine j_iload_n dX11_insert_24 rfl ?_
    refine j_iconst (v := 1) dX11_insert_25 (by decide) ?_
    skip
    refine j_icmp_lt 37 dX11_insert_26 (by decide) (fun c_26 => ?_) (fun c_26 => ?_)
    · have eq : (if 1 ≤ y ∧ y ≤ 9 then 0 else 2 : Int32) = 2 := if_neg (by simp only [le_i, lt_i, Int32.reduceToInt, show (nI 8 + 1 : Int32).toInt = 9 from rfl] at *; omega)
      exact j_throw (E := "java/lang/IndexOutOfBoundsException") ⟨117, 119, by decide, dX11_insert_37, dX11_insert_40, dX11_insert_41, dX11_insert_44⟩ (by omega) (by omega) (Nat.le_of_ble_eq_true rfl) ⟨Fr_rf, by rw [eq]; decide, by rw [eq]; rfl⟩
    · refine j_iload_n dX11_insert_29 rfl ?_
      refine j_aload_n dX11_insert_30 rfl ?_
      refine j_alen dX11_insert_31 (t := 1) (fcK fc 36 rfl rfl) (by decide) ?_
      rw [fcN fc 36 (c := 8) rfl rfl]
      refine j_iconst (v := 1) dX11_insert_32 (by decide) ?_
      refine j_iadd dX11_insert_33 ?_
      refine j_icmp_le 45 dX11_insert_34 (by decide) (fun c_34 => ?_) (fun c_34 => ?_)
      · have c34 : y ≤ 9 := c_34
        have q : 1 ≤ y ∧ y ≤ 9 := by simp only [le_i, lt_i, Int32.reduceToInt] at *; omega
        rw [if_pos q, if_pos q]
        obtain ⟨a0, ha0, hy, -⟩ := nI_ex (x := y) (n := 9) (by simp only [le_i, Int32.reduceToInt] at *; omega) (by simp only [le_i, Int32.reduceToInt] at *; omega)
        subst hy
        simp only [le_i, Int32.reduceToInt, nI_toInt (n := a0) (by omega)] at q
        obtain ⟨a, rfl⟩ : ∃ a, a0 = a + 1 := ⟨a0 - 1, by omega⟩
        refine j_aload_n dX11_insert_45 rfl ?_
        refine j_alen dX11_insert_46 (t := 1) (fcK fc 36 rfl rfl) (by decide) ?_
        rw [fcN fc 36 (c := 8) rfl rfl]
        refine j_iload_n dX11_insert_47 rfl ?_
        refine j_callS1 dX11_insert_48 sl_X11_163 (c_mostOf _) rfl (by decide) (by omega) (by omega) (Nat.le_of_ble_eq_true rfl) (fun v_48 u_48 p_48 => ?_)
        obtain ⟨e_48, rfl⟩ := p_48
        rw [e_48]
        clear e_48
        dsimp only [rs]
        refine j_icmp_lt 62 dX11_insert_51 (by decide) (fun c_51 => ?_) (fun c_51 => ?_)
        · refine j_aload_n dX11_insert_62 rfl ?_
          refine j_iload_n dX11_insert_63 rfl ?_
          refine j_aload_n dX11_insert_64 rfl ?_
          refine j_iload_n dX11_insert_65 rfl ?_
          refine j_callV1 dX11_insert_66 vl_X11_170 (c_newcomer0 (fcK fc 0 rfl rfl)) (fcK fc 0 rfl rfl) rfl (by decide) (by omega) (by omega) (Nat.le_of_ble_eq_true rfl) (fun v_66 u_66 p_66 => ?_)
          obtain ⟨rfl, rfl⟩ := p_66
          dsimp only [rs]
          refine j_callS3 dX11_insert_69 sl_X11_173 (c_with (h := pI h (b 0) 16 (hI h (b 0) 16 + 1)) (la := b 36) (a := a) (m := 8) _ (fcK fc 36 rfl rfl) (fcN fc 36 rfl rfl) (by decide) (by omega)) rfl (by decide) (by omega) (by omega) (Nat.le_of_ble_eq_true rfl) (fun v_69 u_69 p_69 => ?_)
          obtain ⟨q3, hq3, rfl, rfl⟩ := p_69
          have hE1 : Ex (pI h (b 0) 16 (hI h (b 0) 16 + 1)) (sI (nw (pI h (b 0) 16 (hI h (b 0) 16 + 1)) q3 15 (8 + 1)) q3 (insF (hI (pI h (b 0) 16 (hI h (b 0) 16 + 1)) (b 36)) a (hI h (b 0) 16 + 1) (8 + 1))) := Fr_sI (Fr_nw Fr_rf hq3) (Or.inr hq3)
          have k3 : hK (sI (nw (pI h (b 0) 16 (hI h (b 0) 16 + 1)) q3 15 (8 + 1)) q3 (insF (hI (pI h (b 0) 16 (hI h (b 0) 16 + 1)) (b 36)) a (hI h (b 0) 16 + 1) (8 + 1))) q3 = 15 := by show hK (nw (pI h (b 0) 16 (hI h (b 0) 16 + 1)) q3 15 (8 + 1)) q3 = 15; rw [hK_nw, if_pos rfl]
          have n3 : hN (sI (nw (pI h (b 0) 16 (hI h (b 0) 16 + 1)) q3 15 (8 + 1)) q3 (insF (hI (pI h (b 0) 16 (hI h (b 0) 16 + 1)) (b 36)) a (hI h (b 0) 16 + 1) (8 + 1))) q3 = 8 + 1 := by show hN (nw (pI h (b 0) 16 (hI h (b 0) 16 + 1)) q3 15 (8 + 1)) q3 = 8 + 1; rw [hN_nw, if_pos rfl]
          have hs0 : Sh h w (b 36) (b 37) xw 8 6 := fcS fc
          have hc0 : Cel h xw (8 * 6) := fcCel fc
          have hs2 : Sh (sI (nw (pI h (b 0) 16 (hI h (b 0) 16 + 1)) q3 15 (8 + 1)) q3 (insF (hI (pI h (b 0) 16 (hI h (b 0) 16 + 1)) (b 36)) a (hI h (b 0) 16 + 1) (8 + 1))) w (b 36) (b 37) xw 8 6 := Sh_fr hE1 (fun z => z) (show Sh (pI h (b 0) 16 (hI h (b 0) 16 + 1)) w (b 36) (b 37) xw 8 6 from hs0)
          have hc2 := Cel_ex (n := 8 * 6) hE1 (k := 18) (show hK (pI h (b 0) 16 (hI h (b 0) 16 + 1)) xw = 19 from hs0.2.2.2.2.2.2.2.2.1) (show Cel (pI h (b 0) 16 (hI h (b 0) 16 + 1)) xw (8 * 6) from hc0)
          have fs2 := FS_fr (FS_pI (k := 16) (x := hI h (b 0) 16 + 1) (FS_fc fc) (fcNe fc (i := 6) (j := 0) rfl rfl rfl)) hE1 (fun z => z) (fun z => z)
          have hF1 : Fr (CC b w xw) h (sI (nw (pI h (b 0) 16 (hI h (b 0) 16 + 1)) q3 15 (8 + 1)) q3 (insF (hI (pI h (b 0) 16 (hI h (b 0) 16 + 1)) (b 36)) a (hI h (b 0) 16 + 1) (8 + 1))) := Fr_sI (Fr_nw (Fr_pI Fr_rf (Or.inl (ccB b w xw rfl))) hq3) (Or.inr hq3)
          generalize sI (nw (pI h (b 0) 16 (hI h (b 0) 16 + 1)) q3 15 (8 + 1)) q3 (insF (hI (pI h (b 0) 16 (hI h (b 0) 16 + 1)) (b 36)) a (hI h (b 0) 16 + 1) (8 + 1)) = u3 at k3 n3 hs2 hc2 fs2 hF1 ⊢
          dsimp only [rs]
          refine j_astore dX11_insert_72 (by decide) ?_
          dsimp only [st1, st2, unL, List.set]
          refine j_aload_n dX11_insert_74 rfl ?_
          refine j_aload_n dX11_insert_75 rfl ?_
          refine j_getR dX11_insert_76 fl_X11_104 rfl fs2.1 fs2.2.1 ?_
          refine j_iload_n dX11_insert_79 rfl ?_
          refine j_aload dX11_insert_80 rfl ?_
          refine j_callV2 dX11_insert_82 vl_X11_177 (c_shaped0 hs2 hc2 k3 n3 (by decide) (by decide)) (by first | exact fcK fc 0 rfl rfl | exact (fcS fc).1 | exact hs2.1 | exact fs2.1 | exact (FS_fr fs2 hE4 (fun z => z) (fun z => z)).1) rfl (by decide) (by omega) (by omega) (Nat.le_of_ble_eq_true rfl) (fun v_82 u_82 p_82 => ?_)
          obtain ⟨q4, rfl, hq4, k4, hE4⟩ := p_82
          dsimp only [rs]
          refine j_callV1 dX11_insert_85 vl_X11_145 (d_step (FS_fr fs2 hE4 (fun z => z) (fun z => z))) (by first | exact fcK fc 0 rfl rfl | exact (fcS fc).1 | exact hs2.1 | exact fs2.1 | exact (FS_fr fs2 hE4 (fun z => z) (fun z => z)).1) rfl (by decide) (by omega) (by omega) (Nat.le_of_ble_eq_true rfl) (fun v_85 u_85 p_85 => ?_)
          obtain ⟨rfl, rfl⟩ := p_85
          dsimp only [rs]
          refine j_aload dX11_insert_88 rfl ?_
          refine j_alen dX11_insert_90 (t := 1) (show hK (stp11 u_82 b w (some q4)) q3 = 15 from Fr_K hE4 k3 (by decide)) (by decide) ?_
          rw [show hN (stp11 u_82 b w (some q4)) q3 = 8 + 1 from Fr_N hE4 k3 (by decide) n3]
          exact j_ireturn dX11_insert_91 rfl rfl ⟨stp11_fr (Fr_tr2 hF1 (frE hE4) (fun _ _ z => z)), rfl, rfl⟩
        · exact absurd (by decide) c_51
      · have eq : (if 1 ≤ y ∧ y ≤ 9 then 0 else 2 : Int32) = 2 := if_neg (by simp only [le_i, lt_i, Int32.reduceToInt, show (nI 8 + 1 : Int32).toInt = 9 from rfl] at *; omega)
        exact j_throw (E := "java/lang/IndexOutOfBoundsException") ⟨117, 119, by decide, dX11_insert_37, dX11_insert_40, dX11_insert_41, dX11_insert_44⟩ (by omega) (by omega) (Nat.le_of_ble_eq_true rfl) ⟨Fr_rf, by rw [eq]; decide, by rw [eq]; rfl⟩
  · exact absurd (by decide) c_4

set_option maxRecDepth 20000 in
theorem d_remove0 {h : Hp} {b : Nat → Nat} {w xw : Nat} (y : Int32) (fc : FC h b w xw) : ConX mX11_remove 6 4 370 [vr (some (b 0)), vi 0, vi y] h (px h b w xw ["java/lang/IllegalArgumentException", "java/lang/IndexOutOfBoundsException", "java/lang/IllegalStateException"] (if 1 ≤ y ∧ y ≤ 8 then 0 else 2) (if 1 ≤ y ∧ y ≤ 8 then 7 else 0)) := by
  refine con_ofX rfl (Nat.le_of_ble_eq_true rfl) (by decide) (by decide) ?_
  show J mX11_remove 6 4 370 _ 0 [some (vr (some (b 0))), some (vi 0), some (vi y), none] [] h
  refine j_iload_n dX11_remove_0 rfl ?_
  refine j_callS1 dX11_remove_1 sl_X11_156 (c_isAxis _) rfl (by decide) (by omega) (by omega) (Nat.le_of_ble_eq_true rfl) (fun v_1 u_1 p_1 => ?_)
  obtain ⟨e_1, rfl⟩ := p_1
  rw [e_1]
  clear e_1
  dsimp only [rs]
  refine j_if_ne 15 dX11_remove_4 (by decide) (fun c_4 => ?_) (fun c_4 => ?_)
  · refine j_aload_n dX11_remove_15 rfl ?_
    refine j_getR dX11_remove_16 fl_X11_104 rfl (fcK fc 0 rfl rfl) (fcW fc) ?_
    refine j_iload_n dX11_remove_19 rfl ?_
    refine j_callV1 dX11_remove_20 vl_X11_160 (c_line0 (fcS fc)) (fcS fc).1 rfl (by decide) (by omega) (by omega) (Nat.le_of_ble_eq_true rfl) (fun v_20 u_20 p_20 => ?_)
    obtain ⟨e_20, rfl⟩ := p_20
    rw [e_20]
    clear e_20
    dsimp only [rs]
    refine j_astore_n dX11_remove_23 (by decide) ?_
    dsimp only [st1, st2, unL, List.set]
    refine j_iload_n dX11_remove_24 rfl ?_
    refine j_iconst (v := 1) dX11_remove_25 (by decide) ?_
    refine j_icmp_lt 35 dX11_remove_26 (by decide) (fun c_26 => ?_) (fun c_26 => ?_)
    · have eq : (if 1 ≤ y ∧ y ≤ 8 then 0 else 2 : Int32) = 2 := if_neg (by simp only [le_i, lt_i, Int32.reduceToInt, show (nI 8 : Int32).toInt = 8 from rfl] at *; omega)
      exact j_throw (E := "java/lang/IndexOutOfBoundsException") ⟨117, 119, by decide, dX11_remove_35, dX11_remove_38, dX11_remove_39, dX11_remove_42⟩ (by omega) (by omega) (Nat.le_of_ble_eq_true rfl) ⟨Fr_rf, by rw [eq]; decide, by rw [eq]; rfl⟩
    · refine j_iload_n dX11_remove_29 rfl ?_
      refine j_aload_n dX11_remove_30 rfl ?_
      refine j_alen dX11_remove_31 (t := 1) (fcK fc 36 rfl rfl) (by decide) ?_
      rw [fcN fc 36 (c := 8) rfl rfl]
      refine j_icmp_le 43 dX11_remove_32 (by decide) (fun c_32 => ?_) (fun c_32 => ?_)
      · have c32 : y ≤ 8 := c_32
        have q : 1 ≤ y ∧ y ≤ 8 := by simp only [le_i, lt_i, Int32.reduceToInt] at *; omega
        rw [if_pos q, if_pos q]
        obtain ⟨a0, ha0, hy, -⟩ := nI_ex (x := y) (n := 8) (by simp only [le_i, Int32.reduceToInt] at *; omega) (by simp only [le_i, Int32.reduceToInt] at *; omega)
        subst hy
        simp only [le_i, Int32.reduceToInt, nI_toInt (n := a0) (by omega)] at q
        obtain ⟨a, rfl⟩ : ∃ a, a0 = a + 1 := ⟨a0 - 1, by omega⟩
        refine j_aload_n dX11_remove_43 rfl ?_
        refine j_alen dX11_remove_44 (t := 1) (fcK fc 36 rfl rfl) (by decide) ?_
        rw [fcN fc 36 (c := 8) rfl rfl]
        refine j_iconst (v := 1) dX11_remove_45 (by decide) ?_
        refine j_icmp_ne 57 dX11_remove_46 (by decide) (fun c_46 => ?_) (fun c_46 => ?_)
        · refine j_aload_n dX11_remove_57 rfl ?_
          refine j_aload_n dX11_remove_58 rfl ?_
          refine j_getR dX11_remove_59 fl_X11_104 rfl (fcK fc 0 rfl rfl) (fcW fc) ?_
          refine j_iload_n dX11_remove_62 rfl ?_
          refine j_aload_n dX11_remove_63 rfl ?_
          refine j_iload_n dX11_remove_64 rfl ?_
          refine j_callS2 dX11_remove_65 sl_X11_181 (c_without (la := b 36) (a := a) (m := 7) (fcK fc 36 rfl rfl) (fcN fc 36 rfl rfl) (by decide) (by omega)) rfl (by decide) (by omega) (by omega) (Nat.le_of_ble_eq_true rfl) (fun v_65 u_65 p_65 => ?_)
          obtain ⟨q3, hq3, rfl, rfl⟩ := p_65
          have hE1 : Ex h (sI (nw h q3 15 7) q3 (remF (hI h (b 36)) a 7)) := Fr_sI (Fr_nw Fr_rf hq3) (Or.inr hq3)
          have k3 : hK (sI (nw h q3 15 7) q3 (remF (hI h (b 36)) a 7)) q3 = 15 := by show hK (nw h q3 15 7) q3 = 15; rw [hK_nw, if_pos rfl]
          have n3 : hN (sI (nw h q3 15 7) q3 (remF (hI h (b 36)) a 7)) q3 = 7 := by show hN (nw h q3 15 7) q3 = 7; rw [hN_nw, if_pos rfl]
          generalize sI (nw h q3 15 7) q3 (remF (hI h (b 36)) a 7) = u3 at hE1 k3 n3 ⊢
          have fc3 := FC_ex fc hE1
          dsimp only [rs]
          refine j_callV2 dX11_remove_68 vl_X11_177 (c_shaped0 (fcS fc3) (fcCel fc3) k3 n3 (by decide) (by decide)) (by first | exact fcK fc 0 rfl rfl | exact (fcS fc).1 | exact (fcS fc3).1 | exact fcK fc4 0 rfl rfl) rfl (by decide) (by omega) (by omega) (Nat.le_of_ble_eq_true rfl) (fun v_68 u_68 p_68 => ?_)
          obtain ⟨q4, rfl, hq4, k4, hE4⟩ := p_68
          have fc4 := FC_ex fc3 hE4
          dsimp only [rs]
          refine j_callV1 dX11_remove_71 vl_X11_145 (d_step (FS_fc fc4)) (by first | exact fcK fc 0 rfl rfl | exact (fcS fc).1 | exact (fcS fc3).1 | exact fcK fc4 0 rfl rfl) rfl (by decide) (by omega) (by omega) (Nat.le_of_ble_eq_true rfl) (fun v_71 u_71 p_71 => ?_)
          obtain ⟨rfl, rfl⟩ := p_71
          dsimp only [rs]
          refine j_aload_n dX11_remove_74 rfl ?_
          refine j_alen dX11_remove_75 (t := 1) (show hK (stp11 u_68 b w (some q4)) (b 36) = 15 from fcK fc4 36 rfl rfl) (by decide) ?_
          rw [show hN (stp11 u_68 b w (some q4)) (b 36) = 8 from fcN fc4 36 rfl rfl]
          refine j_iconst (v := 1) dX11_remove_76 (by decide) ?_
          refine j_isub dX11_remove_77 ?_
          exact j_ireturn dX11_remove_78 rfl rfl ⟨stp11_fr (Fr_tr2 (frE hE1) (frE hE4) (fun _ _ z => z)), rfl, rfl⟩
        · exact absurd (by decide) c_46
      · have eq : (if 1 ≤ y ∧ y ≤ 8 then 0 else 2 : Int32) = 2 := if_neg (by simp only [le_i, lt_i, Int32.reduceToInt, show (nI 8 : Int32).toInt = 8 from rfl] at *; omega)
        exact j_throw (E := "java/lang/IndexOutOfBoundsException") ⟨117, 119, by decide, dX11_remove_35, dX11_remove_38, dX11_remove_39, dX11_remove_42⟩ (by omega) (by omega) (Nat.le_of_ble_eq_true rfl) ⟨Fr_rf, by rw [eq]; decide, by rw [eq]; rfl⟩
  · exact absurd (by decide) c_4

set_option maxRecDepth 20000 in
theorem d_move0 {h : Hp} {b : Nat → Nat} {w xw : Nat} (y z : Int32) (fc : FC h b w xw) : ConX mX11_move 6 5 400 [vr (some (b 0)), vi 0, vi y, vi z] h (px h b w xw ["java/lang/IllegalArgumentException", "java/lang/IndexOutOfBoundsException"] (if (1 ≤ y ∧ y ≤ 8 ∧ 1 ≤ z ∧ z ≤ 8) then 0 else 2) (mvR 8 y z)) := by
  refine con_ofX rfl (Nat.le_of_ble_eq_true rfl) (by decide) (by decide) ?_
  show J mX11_move 6 5 400 _ 0 [some (vr (some (b 0))), some (vi 0), some (vi y), some (vi z), none] [] h
  refine j_iload_n dX11_move_0 rfl ?_
  refine j_callS1 dX11_move_1 sl_X11_156 (c_isAxis _) rfl (by decide) (by omega) (by omega) (Nat.le_of_ble_eq_true rfl) (fun v_1 u_1 p_1 => ?_)
  obtain ⟨e_1, rfl⟩ := p_1
  rw [e_1]
  clear e_1
  dsimp only [rs]
  refine j_if_ne 15 dX11_move_4 (by decide) (fun c_4 => ?_) (fun c_4 => ?_)
  · refine j_aload_n dX11_move_15 rfl ?_
    refine j_getR dX11_move_16 fl_X11_104 rfl (fcK fc 0 rfl rfl) (fcW fc) ?_
    refine j_iload_n dX11_move_19 rfl ?_
    refine j_callV1 dX11_move_20 vl_X11_160 (c_line0 (fcS fc)) (fcS fc).1 rfl (by decide) (by omega) (by omega) (Nat.le_of_ble_eq_true rfl) (fun v_20 u_20 p_20 => ?_)
    obtain ⟨e_20, rfl⟩ := p_20
    rw [e_20]
    clear e_20
    dsimp only [rs]
    refine j_astore dX11_move_23 (by decide) ?_
    dsimp only [st1, st2, unL, List.set]
    refine j_iload_n dX11_move_25 rfl ?_
    refine j_iconst (v := 1) dX11_move_26 (by decide) ?_
    refine j_icmp_lt 49 dX11_move_27 (by decide) (fun c_27 => ?_) (fun c_27 => ?_)
    · have eq : (if (1 ≤ y ∧ y ≤ 8 ∧ 1 ≤ z ∧ z ≤ 8) then 0 else 2 : Int32) = 2 := if_neg (by simp only [le_i, lt_i, Int32.reduceToInt, show (nI 8 : Int32).toInt = 8 from rfl] at *; omega)
      exact j_throw (E := "java/lang/IndexOutOfBoundsException") ⟨117, 119, by decide, dX11_move_49, dX11_move_52, dX11_move_53, dX11_move_56⟩ (by omega) (by omega) (Nat.le_of_ble_eq_true rfl) ⟨Fr_rf, by rw [eq]; decide, by rw [eq]; rfl⟩
    · refine j_iload_n dX11_move_30 rfl ?_
      refine j_aload dX11_move_31 rfl ?_
      refine j_alen dX11_move_33 (t := 1) (fcK fc 36 rfl rfl) (by decide) ?_
      rw [fcN fc 36 (c := 8) rfl rfl]
      refine j_icmp_gt 49 dX11_move_34 (by decide) (fun c_34 => ?_) (fun c_34 => ?_)
      · have eq : (if (1 ≤ y ∧ y ≤ 8 ∧ 1 ≤ z ∧ z ≤ 8) then 0 else 2 : Int32) = 2 := if_neg (by simp only [le_i, lt_i, Int32.reduceToInt, show (nI 8 : Int32).toInt = 8 from rfl] at *; omega)
        exact j_throw (E := "java/lang/IndexOutOfBoundsException") ⟨117, 119, by decide, dX11_move_49, dX11_move_52, dX11_move_53, dX11_move_56⟩ (by omega) (by omega) (Nat.le_of_ble_eq_true rfl) ⟨Fr_rf, by rw [eq]; decide, by rw [eq]; rfl⟩
      · refine j_iload_n dX11_move_37 rfl ?_
        refine j_iconst (v := 1) dX11_move_38 (by decide) ?_
        refine j_icmp_lt 49 dX11_move_39 (by decide) (fun c_39 => ?_) (fun c_39 => ?_)
        · have eq : (if (1 ≤ y ∧ y ≤ 8 ∧ 1 ≤ z ∧ z ≤ 8) then 0 else 2 : Int32) = 2 := if_neg (by simp only [le_i, lt_i, Int32.reduceToInt, show (nI 8 : Int32).toInt = 8 from rfl] at *; omega)
          exact j_throw (E := "java/lang/IndexOutOfBoundsException") ⟨117, 119, by decide, dX11_move_49, dX11_move_52, dX11_move_53, dX11_move_56⟩ (by omega) (by omega) (Nat.le_of_ble_eq_true rfl) ⟨Fr_rf, by rw [eq]; decide, by rw [eq]; rfl⟩
        · refine j_iload_n dX11_move_42 rfl ?_
          refine j_aload dX11_move_43 rfl ?_
          refine j_alen dX11_move_45 (t := 1) (fcK fc 36 rfl rfl) (by decide) ?_
          rw [fcN fc 36 (c := 8) rfl rfl]
          refine j_icmp_le 57 dX11_move_46 (by decide) (fun c_46 => ?_) (fun c_46 => ?_)
          · have qq : (1 ≤ y ∧ y ≤ 8 ∧ 1 ≤ z ∧ z ≤ 8) := by simp only [le_i, lt_i, Int32.reduceToInt, show (nI 8 : Int32).toInt = 8 from rfl] at *; omega
            rw [if_pos qq]
            rw [mvR, if_pos qq]
            obtain ⟨q1, q2, q3_, q4_⟩ := id qq
            obtain ⟨a0, ha0, hv_, -⟩ := nI_ex (x := y) (n := 8) (by simp only [le_i, Int32.reduceToInt] at *; omega) (by simp only [le_i, Int32.reduceToInt] at *; omega)
            subst hv_
            obtain ⟨c0, hc0, hv_, -⟩ := nI_ex (x := z) (n := 8) (by simp only [le_i, Int32.reduceToInt] at *; omega) (by simp only [le_i, Int32.reduceToInt] at *; omega)
            subst hv_
            simp only [le_i, Int32.reduceToInt, nI_toInt (n := a0) (by omega), nI_toInt (n := c0) (by omega)] at qq
            obtain ⟨a, rfl⟩ : ∃ a, a0 = a + 1 := ⟨a0 - 1, by omega⟩
            obtain ⟨c, rfl⟩ : ∃ a, c0 = a + 1 := ⟨c0 - 1, by omega⟩
            refine j_aload_n dX11_move_57 rfl ?_
            refine j_aload_n dX11_move_58 rfl ?_
            refine j_getR dX11_move_59 fl_X11_104 rfl (fcK fc 0 rfl rfl) (fcW fc) ?_
            refine j_iload_n dX11_move_62 rfl ?_
            refine j_aload dX11_move_63 rfl ?_
            refine j_iload_n dX11_move_65 rfl ?_
            refine j_callS2 dX11_move_66 sl_X11_181 (c_without (la := b 36) (a := a) (m := 7) (fcK fc 36 rfl rfl) (fcN fc 36 rfl rfl) (by decide) (by omega)) rfl (by decide) (by omega) (by omega) (Nat.le_of_ble_eq_true rfl) (fun v_66 u_66 p_66 => ?_)
            obtain ⟨q3, hq3, rfl, rfl⟩ := p_66
            have hE1 : Ex h (sI (nw h q3 15 7) q3 (remF (hI h (b 36)) a 7)) := Fr_sI (Fr_nw Fr_rf hq3) (Or.inr hq3)
            have k3 : hK (sI (nw h q3 15 7) q3 (remF (hI h (b 36)) a 7)) q3 = 15 := by show hK (nw h q3 15 7) q3 = 15; rw [hK_nw, if_pos rfl]
            have n3 : hN (sI (nw h q3 15 7) q3 (remF (hI h (b 36)) a 7)) q3 = 7 := by show hN (nw h q3 15 7) q3 = 7; rw [hN_nw, if_pos rfl]
            generalize sI (nw h q3 15 7) q3 (remF (hI h (b 36)) a 7) = u3 at hE1 k3 n3 ⊢
            have fc3 := FC_ex fc hE1
            dsimp only [rs]
            refine j_iload_n dX11_move_69 rfl ?_
            refine j_aload dX11_move_70 rfl ?_
            refine j_iload_n dX11_move_72 rfl ?_
            refine j_iconst (v := 1) dX11_move_73 (by decide) ?_
            refine j_isub dX11_move_74 ?_
            rw [nI_pred]
            refine j_iald a dX11_move_75 (fcK fc3 36 rfl rfl) rfl (by rw [fcN fc3 36 (c := 8) rfl rfl]; omega) (by rw [fcN fc3 36 (c := 8) rfl rfl]; decide) ?_
            refine j_callS3 dX11_move_76 sl_X11_173 (c_with (la := q3) (a := c) (m := 7) _ k3 n3 (by decide) (by omega)) rfl (by decide) (by omega) (by omega) (Nat.le_of_ble_eq_true rfl) (fun v_76 u_76 p_76 => ?_)
            obtain ⟨q5, hq5, rfl, rfl⟩ := p_76
            have hE5 : Ex u3 (sI (nw u3 q5 15 (7 + 1)) q5 (insF (hI u3 q3) c (hI u3 (b 36) a) (7 + 1))) := Fr_sI (Fr_nw Fr_rf hq5) (Or.inr hq5)
            have k5 : hK (sI (nw u3 q5 15 (7 + 1)) q5 (insF (hI u3 q3) c (hI u3 (b 36) a) (7 + 1))) q5 = 15 := by show hK (nw u3 q5 15 (7 + 1)) q5 = 15; rw [hK_nw, if_pos rfl]
            have n5 : hN (sI (nw u3 q5 15 (7 + 1)) q5 (insF (hI u3 q3) c (hI u3 (b 36) a) (7 + 1))) q5 = 7 + 1 := by show hN (nw u3 q5 15 (7 + 1)) q5 = 7 + 1; rw [hN_nw, if_pos rfl]
            generalize sI (nw u3 q5 15 (7 + 1)) q5 (insF (hI u3 q3) c (hI u3 (b 36) a) (7 + 1)) = u5 at hE5 k5 n5 ⊢
            have fc5 := FC_ex fc3 hE5
            dsimp only [rs]
            refine j_callV2 dX11_move_79 vl_X11_177 (c_shaped0 (fcS fc5) (fcCel fc5) k5 n5 (by decide) (by decide)) (by first | exact fcK fc 0 rfl rfl | exact (fcS fc).1 | exact (fcS fc5).1 | exact fcK fc4 0 rfl rfl) rfl (by decide) (by omega) (by omega) (Nat.le_of_ble_eq_true rfl) (fun v_79 u_79 p_79 => ?_)
            obtain ⟨q4, rfl, hq4, k4, hE4⟩ := p_79
            have fc4 := FC_ex fc5 hE4
            dsimp only [rs]
            refine j_callV1 dX11_move_82 vl_X11_145 (d_step (FS_fc fc4)) (by first | exact fcK fc 0 rfl rfl | exact (fcS fc).1 | exact (fcS fc5).1 | exact fcK fc4 0 rfl rfl) rfl (by decide) (by omega) (by omega) (Nat.le_of_ble_eq_true rfl) (fun v_82 u_82 p_82 => ?_)
            obtain ⟨rfl, rfl⟩ := p_82
            dsimp only [rs]
            refine j_iload_n dX11_move_85 rfl ?_
            refine j_iload_n dX11_move_86 rfl ?_
            refine j_icmp_ne 94 dX11_move_87 (by decide) (fun c_87 => ?_) (fun c_87 => ?_)
            · refine j_iload_n dX11_move_94 rfl ?_
              refine j_iload_n dX11_move_95 rfl ?_
              refine j_isub dX11_move_96 ?_
              refine j_mabs dX11_move_97 sl_X11_185 (by decide) (Nat.le_of_ble_eq_true rfl) ?_
              refine j_iconst (v := 1) dX11_move_100 (by decide) ?_
              refine j_iadd dX11_move_101 ?_
              have hFF := stp11_fr (nx := some q4) (Fr_tr2 (Fr_tr2 (frE (S := CC b w xw) hE1) (frE hE5) (fun _ _ z => z)) (frE hE4) (fun _ _ z => z))
              first
                | exact j_ireturn dX11_move_102 rfl rfl ⟨hFF, rfl, by rw [if_pos (Classical.not_not.mp c_87)]⟩
                | (refine j_ireturn dX11_move_102 rfl rfl ⟨hFF, rfl, ?_⟩
                   rw [if_neg c_87]
                   have hac : a ≠ c := fun e => c_87 (by rw [e])
                   by_cases hlt : a < c
                   · rw [if_pos (nI_lt (by omega) (by omega)), if_neg (Int32.not_le.mpr (pk_sneg (by omega) (by omega)))]; congr 3; simp
                   · rw [if_neg (nI_nlt (by omega) (by omega)), if_pos (by rw [pk_sub (by omega)]; exact nI_pos' (by omega))])
            · refine j_iconst (v := 0) dX11_move_90 (by decide) ?_
              refine j_goto 102 dX11_move_91 (by decide) ?_
              have hFF := stp11_fr (nx := some q4) (Fr_tr2 (Fr_tr2 (frE (S := CC b w xw) hE1) (frE hE5) (fun _ _ z => z)) (frE hE4) (fun _ _ z => z))
              first
                | exact j_ireturn dX11_move_102 rfl rfl ⟨hFF, rfl, by rw [if_pos (Classical.not_not.mp c_87)]⟩
                | (refine j_ireturn dX11_move_102 rfl rfl ⟨hFF, rfl, ?_⟩
                   rw [if_neg c_87]
                   have hac : a ≠ c := fun e => c_87 (by rw [e])
                   by_cases hlt : a < c
                   · rw [if_pos (nI_lt (by omega) (by omega)), if_neg (Int32.not_le.mpr (pk_sneg (by omega) (by omega)))]; congr 3; simp
                   · rw [if_neg (nI_nlt (by omega) (by omega)), if_pos (by rw [pk_sub (by omega)]; exact nI_pos' (by omega))])
          · have eq : (if (1 ≤ y ∧ y ≤ 8 ∧ 1 ≤ z ∧ z ≤ 8) then 0 else 2 : Int32) = 2 := if_neg (by simp only [le_i, lt_i, Int32.reduceToInt, show (nI 8 : Int32).toInt = 8 from rfl] at *; omega)
            exact j_throw (E := "java/lang/IndexOutOfBoundsException") ⟨117, 119, by decide, dX11_move_49, dX11_move_52, dX11_move_53, dX11_move_56⟩ (by omega) (by omega) (Nat.le_of_ble_eq_true rfl) ⟨Fr_rf, by rw [eq]; decide, by rw [eq]; rfl⟩
  · exact absurd (by decide) c_4

set_option maxRecDepth 20000 in
theorem d_insert1 {h : Hp} {b : Nat → Nat} {w xw : Nat} (y : Int32) (fc : FC h b w xw) : ConX mX11_insert 6 4 370 [vr (some (b 0)), vi 1, vi y] h (px h b w xw ["java/lang/IllegalArgumentException", "java/lang/IndexOutOfBoundsException", "java/lang/IllegalStateException"] (if 1 ≤ y ∧ y ≤ 7 then 0 else 2) (if 1 ≤ y ∧ y ≤ 7 then 7 else 0)) := by
  refine con_ofX rfl (Nat.le_of_ble_eq_true rfl) (by decide) (by decide) ?_
  show J mX11_insert 6 4 370 _ 0 [some (vr (some (b 0))), some (vi 1), some (vi y), none, none] [] h
  refine j_iload_n dX11_insert_0 rfl ?_
  refine j_callS1 dX11_insert_1 sl_X11_156 (c_isAxis _) rfl (by decide) (by omega) (by omega) (Nat.le_of_ble_eq_true rfl) (fun v_1 u_1 p_1 => ?_)
  obtain ⟨e_1, rfl⟩ := p_1
  rw [e_1]
  clear e_1
  dsimp only [rs]
  refine j_if_ne 15 dX11_insert_4 (by decide) (fun c_4 => ?_) (fun c_4 => ?_)
  · refine j_aload_n dX11_insert_15 rfl ?_
    refine j_getR dX11_insert_16 fl_X11_104 rfl (fcK fc 0 rfl rfl) (fcW fc) ?_
    refine j_iload_n dX11_insert_19 rfl ?_
    refine j_callV1 dX11_insert_20 vl_X11_160 (c_line1 (fcS fc)) (fcS fc).1 rfl (by decide) (by omega) (by omega) (Nat.le_of_ble_eq_true rfl) (fun v_20 u_20 p_20 => ?_)
    obtain ⟨e_20, rfl⟩ := p_20
    rw [e_20]
    clear e_20
    dsimp only [rs]
    refine j_astore_n dX11_insert_23 (by decide) ?_
    dsimp only [st1, st2, unL, List.set]
    refine j_iload_n dX11_insert_24 rfl ?_
    refine j_iconst (v := 1) dX11_insert_25 (by decide) ?_
    skip
    refine j_icmp_lt 37 dX11_insert_26 (by decide) (fun c_26 => ?_) (fun c_26 => ?_)
    · have eq : (if 1 ≤ y ∧ y ≤ 7 then 0 else 2 : Int32) = 2 := if_neg (by simp only [le_i, lt_i, Int32.reduceToInt, show (nI 6 + 1 : Int32).toInt = 7 from rfl] at *; omega)
      exact j_throw (E := "java/lang/IndexOutOfBoundsException") ⟨117, 119, by decide, dX11_insert_37, dX11_insert_40, dX11_insert_41, dX11_insert_44⟩ (by omega) (by omega) (Nat.le_of_ble_eq_true rfl) ⟨Fr_rf, by rw [eq]; decide, by rw [eq]; rfl⟩
    · refine j_iload_n dX11_insert_29 rfl ?_
      refine j_aload_n dX11_insert_30 rfl ?_
      refine j_alen dX11_insert_31 (t := 1) (fcK fc 37 rfl rfl) (by decide) ?_
      rw [fcN fc 37 (c := 6) rfl rfl]
      refine j_iconst (v := 1) dX11_insert_32 (by decide) ?_
      refine j_iadd dX11_insert_33 ?_
      refine j_icmp_le 45 dX11_insert_34 (by decide) (fun c_34 => ?_) (fun c_34 => ?_)
      · have c34 : y ≤ 7 := c_34
        have q : 1 ≤ y ∧ y ≤ 7 := by simp only [le_i, lt_i, Int32.reduceToInt] at *; omega
        rw [if_pos q, if_pos q]
        obtain ⟨a0, ha0, hy, -⟩ := nI_ex (x := y) (n := 7) (by simp only [le_i, Int32.reduceToInt] at *; omega) (by simp only [le_i, Int32.reduceToInt] at *; omega)
        subst hy
        simp only [le_i, Int32.reduceToInt, nI_toInt (n := a0) (by omega)] at q
        obtain ⟨a, rfl⟩ : ∃ a, a0 = a + 1 := ⟨a0 - 1, by omega⟩
        refine j_aload_n dX11_insert_45 rfl ?_
        refine j_alen dX11_insert_46 (t := 1) (fcK fc 37 rfl rfl) (by decide) ?_
        rw [fcN fc 37 (c := 6) rfl rfl]
        refine j_iload_n dX11_insert_47 rfl ?_
        refine j_callS1 dX11_insert_48 sl_X11_163 (c_mostOf _) rfl (by decide) (by omega) (by omega) (Nat.le_of_ble_eq_true rfl) (fun v_48 u_48 p_48 => ?_)
        obtain ⟨e_48, rfl⟩ := p_48
        rw [e_48]
        clear e_48
        dsimp only [rs]
        refine j_icmp_lt 62 dX11_insert_51 (by decide) (fun c_51 => ?_) (fun c_51 => ?_)
        · refine j_aload_n dX11_insert_62 rfl ?_
          refine j_iload_n dX11_insert_63 rfl ?_
          refine j_aload_n dX11_insert_64 rfl ?_
          refine j_iload_n dX11_insert_65 rfl ?_
          refine j_callV1 dX11_insert_66 vl_X11_170 (c_newcomer1 (fcK fc 0 rfl rfl)) (fcK fc 0 rfl rfl) rfl (by decide) (by omega) (by omega) (Nat.le_of_ble_eq_true rfl) (fun v_66 u_66 p_66 => ?_)
          obtain ⟨rfl, rfl⟩ := p_66
          dsimp only [rs]
          refine j_callS3 dX11_insert_69 sl_X11_173 (c_with (h := pI h (b 0) 17 (hI h (b 0) 17 + 1)) (la := b 37) (a := a) (m := 6) _ (fcK fc 37 rfl rfl) (fcN fc 37 rfl rfl) (by decide) (by omega)) rfl (by decide) (by omega) (by omega) (Nat.le_of_ble_eq_true rfl) (fun v_69 u_69 p_69 => ?_)
          obtain ⟨q3, hq3, rfl, rfl⟩ := p_69
          have hE1 : Ex (pI h (b 0) 17 (hI h (b 0) 17 + 1)) (sI (nw (pI h (b 0) 17 (hI h (b 0) 17 + 1)) q3 15 (6 + 1)) q3 (insF (hI (pI h (b 0) 17 (hI h (b 0) 17 + 1)) (b 37)) a (hI h (b 0) 17 + 1) (6 + 1))) := Fr_sI (Fr_nw Fr_rf hq3) (Or.inr hq3)
          have k3 : hK (sI (nw (pI h (b 0) 17 (hI h (b 0) 17 + 1)) q3 15 (6 + 1)) q3 (insF (hI (pI h (b 0) 17 (hI h (b 0) 17 + 1)) (b 37)) a (hI h (b 0) 17 + 1) (6 + 1))) q3 = 15 := by show hK (nw (pI h (b 0) 17 (hI h (b 0) 17 + 1)) q3 15 (6 + 1)) q3 = 15; rw [hK_nw, if_pos rfl]
          have n3 : hN (sI (nw (pI h (b 0) 17 (hI h (b 0) 17 + 1)) q3 15 (6 + 1)) q3 (insF (hI (pI h (b 0) 17 (hI h (b 0) 17 + 1)) (b 37)) a (hI h (b 0) 17 + 1) (6 + 1))) q3 = 6 + 1 := by show hN (nw (pI h (b 0) 17 (hI h (b 0) 17 + 1)) q3 15 (6 + 1)) q3 = 6 + 1; rw [hN_nw, if_pos rfl]
          have hs0 : Sh h w (b 36) (b 37) xw 8 6 := fcS fc
          have hc0 : Cel h xw (8 * 6) := fcCel fc
          have hs2 : Sh (sI (nw (pI h (b 0) 17 (hI h (b 0) 17 + 1)) q3 15 (6 + 1)) q3 (insF (hI (pI h (b 0) 17 (hI h (b 0) 17 + 1)) (b 37)) a (hI h (b 0) 17 + 1) (6 + 1))) w (b 36) (b 37) xw 8 6 := Sh_fr hE1 (fun z => z) (show Sh (pI h (b 0) 17 (hI h (b 0) 17 + 1)) w (b 36) (b 37) xw 8 6 from hs0)
          have hc2 := Cel_ex (n := 8 * 6) hE1 (k := 18) (show hK (pI h (b 0) 17 (hI h (b 0) 17 + 1)) xw = 19 from hs0.2.2.2.2.2.2.2.2.1) (show Cel (pI h (b 0) 17 (hI h (b 0) 17 + 1)) xw (8 * 6) from hc0)
          have fs2 := FS_fr (FS_pI (k := 17) (x := hI h (b 0) 17 + 1) (FS_fc fc) (fcNe fc (i := 6) (j := 0) rfl rfl rfl)) hE1 (fun z => z) (fun z => z)
          have hF1 : Fr (CC b w xw) h (sI (nw (pI h (b 0) 17 (hI h (b 0) 17 + 1)) q3 15 (6 + 1)) q3 (insF (hI (pI h (b 0) 17 (hI h (b 0) 17 + 1)) (b 37)) a (hI h (b 0) 17 + 1) (6 + 1))) := Fr_sI (Fr_nw (Fr_pI Fr_rf (Or.inl (ccB b w xw rfl))) hq3) (Or.inr hq3)
          generalize sI (nw (pI h (b 0) 17 (hI h (b 0) 17 + 1)) q3 15 (6 + 1)) q3 (insF (hI (pI h (b 0) 17 (hI h (b 0) 17 + 1)) (b 37)) a (hI h (b 0) 17 + 1) (6 + 1)) = u3 at k3 n3 hs2 hc2 fs2 hF1 ⊢
          dsimp only [rs]
          refine j_astore dX11_insert_72 (by decide) ?_
          dsimp only [st1, st2, unL, List.set]
          refine j_aload_n dX11_insert_74 rfl ?_
          refine j_aload_n dX11_insert_75 rfl ?_
          refine j_getR dX11_insert_76 fl_X11_104 rfl fs2.1 fs2.2.1 ?_
          refine j_iload_n dX11_insert_79 rfl ?_
          refine j_aload dX11_insert_80 rfl ?_
          refine j_callV2 dX11_insert_82 vl_X11_177 (c_shaped1 hs2 hc2 k3 n3 (by decide) (by decide)) (by first | exact fcK fc 0 rfl rfl | exact (fcS fc).1 | exact hs2.1 | exact fs2.1 | exact (FS_fr fs2 hE4 (fun z => z) (fun z => z)).1) rfl (by decide) (by omega) (by omega) (Nat.le_of_ble_eq_true rfl) (fun v_82 u_82 p_82 => ?_)
          obtain ⟨q4, rfl, hq4, k4, hE4⟩ := p_82
          dsimp only [rs]
          refine j_callV1 dX11_insert_85 vl_X11_145 (d_step (FS_fr fs2 hE4 (fun z => z) (fun z => z))) (by first | exact fcK fc 0 rfl rfl | exact (fcS fc).1 | exact hs2.1 | exact fs2.1 | exact (FS_fr fs2 hE4 (fun z => z) (fun z => z)).1) rfl (by decide) (by omega) (by omega) (Nat.le_of_ble_eq_true rfl) (fun v_85 u_85 p_85 => ?_)
          obtain ⟨rfl, rfl⟩ := p_85
          dsimp only [rs]
          refine j_aload dX11_insert_88 rfl ?_
          refine j_alen dX11_insert_90 (t := 1) (show hK (stp11 u_82 b w (some q4)) q3 = 15 from Fr_K hE4 k3 (by decide)) (by decide) ?_
          rw [show hN (stp11 u_82 b w (some q4)) q3 = 6 + 1 from Fr_N hE4 k3 (by decide) n3]
          exact j_ireturn dX11_insert_91 rfl rfl ⟨stp11_fr (Fr_tr2 hF1 (frE hE4) (fun _ _ z => z)), rfl, rfl⟩
        · exact absurd (by decide) c_51
      · have eq : (if 1 ≤ y ∧ y ≤ 7 then 0 else 2 : Int32) = 2 := if_neg (by simp only [le_i, lt_i, Int32.reduceToInt, show (nI 6 + 1 : Int32).toInt = 7 from rfl] at *; omega)
        exact j_throw (E := "java/lang/IndexOutOfBoundsException") ⟨117, 119, by decide, dX11_insert_37, dX11_insert_40, dX11_insert_41, dX11_insert_44⟩ (by omega) (by omega) (Nat.le_of_ble_eq_true rfl) ⟨Fr_rf, by rw [eq]; decide, by rw [eq]; rfl⟩
  · exact absurd (by decide) c_4

set_option maxRecDepth 20000 in
theorem d_remove1 {h : Hp} {b : Nat → Nat} {w xw : Nat} (y : Int32) (fc : FC h b w xw) : ConX mX11_remove 6 4 370 [vr (some (b 0)), vi 1, vi y] h (px h b w xw ["java/lang/IllegalArgumentException", "java/lang/IndexOutOfBoundsException", "java/lang/IllegalStateException"] (if 1 ≤ y ∧ y ≤ 6 then 0 else 2) (if 1 ≤ y ∧ y ≤ 6 then 5 else 0)) := by
  refine con_ofX rfl (Nat.le_of_ble_eq_true rfl) (by decide) (by decide) ?_
  show J mX11_remove 6 4 370 _ 0 [some (vr (some (b 0))), some (vi 1), some (vi y), none] [] h
  refine j_iload_n dX11_remove_0 rfl ?_
  refine j_callS1 dX11_remove_1 sl_X11_156 (c_isAxis _) rfl (by decide) (by omega) (by omega) (Nat.le_of_ble_eq_true rfl) (fun v_1 u_1 p_1 => ?_)
  obtain ⟨e_1, rfl⟩ := p_1
  rw [e_1]
  clear e_1
  dsimp only [rs]
  refine j_if_ne 15 dX11_remove_4 (by decide) (fun c_4 => ?_) (fun c_4 => ?_)
  · refine j_aload_n dX11_remove_15 rfl ?_
    refine j_getR dX11_remove_16 fl_X11_104 rfl (fcK fc 0 rfl rfl) (fcW fc) ?_
    refine j_iload_n dX11_remove_19 rfl ?_
    refine j_callV1 dX11_remove_20 vl_X11_160 (c_line1 (fcS fc)) (fcS fc).1 rfl (by decide) (by omega) (by omega) (Nat.le_of_ble_eq_true rfl) (fun v_20 u_20 p_20 => ?_)
    obtain ⟨e_20, rfl⟩ := p_20
    rw [e_20]
    clear e_20
    dsimp only [rs]
    refine j_astore_n dX11_remove_23 (by decide) ?_
    dsimp only [st1, st2, unL, List.set]
    refine j_iload_n dX11_remove_24 rfl ?_
    refine j_iconst (v := 1) dX11_remove_25 (by decide) ?_
    refine j_icmp_lt 35 dX11_remove_26 (by decide) (fun c_26 => ?_) (fun c_26 => ?_)
    · have eq : (if 1 ≤ y ∧ y ≤ 6 then 0 else 2 : Int32) = 2 := if_neg (by simp only [le_i, lt_i, Int32.reduceToInt, show (nI 6 : Int32).toInt = 6 from rfl] at *; omega)
      exact j_throw (E := "java/lang/IndexOutOfBoundsException") ⟨117, 119, by decide, dX11_remove_35, dX11_remove_38, dX11_remove_39, dX11_remove_42⟩ (by omega) (by omega) (Nat.le_of_ble_eq_true rfl) ⟨Fr_rf, by rw [eq]; decide, by rw [eq]; rfl⟩
    · refine j_iload_n dX11_remove_29 rfl ?_
      refine j_aload_n dX11_remove_30 rfl ?_
      refine j_alen dX11_remove_31 (t := 1) (fcK fc 37 rfl rfl) (by decide) ?_
      rw [fcN fc 37 (c := 6) rfl rfl]
      refine j_icmp_le 43 dX11_remove_32 (by decide) (fun c_32 => ?_) (fun c_32 => ?_)
      · have c32 : y ≤ 6 := c_32
        have q : 1 ≤ y ∧ y ≤ 6 := by simp only [le_i, lt_i, Int32.reduceToInt] at *; omega
        rw [if_pos q, if_pos q]
        obtain ⟨a0, ha0, hy, -⟩ := nI_ex (x := y) (n := 6) (by simp only [le_i, Int32.reduceToInt] at *; omega) (by simp only [le_i, Int32.reduceToInt] at *; omega)
        subst hy
        simp only [le_i, Int32.reduceToInt, nI_toInt (n := a0) (by omega)] at q
        obtain ⟨a, rfl⟩ : ∃ a, a0 = a + 1 := ⟨a0 - 1, by omega⟩
        refine j_aload_n dX11_remove_43 rfl ?_
        refine j_alen dX11_remove_44 (t := 1) (fcK fc 37 rfl rfl) (by decide) ?_
        rw [fcN fc 37 (c := 6) rfl rfl]
        refine j_iconst (v := 1) dX11_remove_45 (by decide) ?_
        refine j_icmp_ne 57 dX11_remove_46 (by decide) (fun c_46 => ?_) (fun c_46 => ?_)
        · refine j_aload_n dX11_remove_57 rfl ?_
          refine j_aload_n dX11_remove_58 rfl ?_
          refine j_getR dX11_remove_59 fl_X11_104 rfl (fcK fc 0 rfl rfl) (fcW fc) ?_
          refine j_iload_n dX11_remove_62 rfl ?_
          refine j_aload_n dX11_remove_63 rfl ?_
          refine j_iload_n dX11_remove_64 rfl ?_
          refine j_callS2 dX11_remove_65 sl_X11_181 (c_without (la := b 37) (a := a) (m := 5) (fcK fc 37 rfl rfl) (fcN fc 37 rfl rfl) (by decide) (by omega)) rfl (by decide) (by omega) (by omega) (Nat.le_of_ble_eq_true rfl) (fun v_65 u_65 p_65 => ?_)
          obtain ⟨q3, hq3, rfl, rfl⟩ := p_65
          have hE1 : Ex h (sI (nw h q3 15 5) q3 (remF (hI h (b 37)) a 5)) := Fr_sI (Fr_nw Fr_rf hq3) (Or.inr hq3)
          have k3 : hK (sI (nw h q3 15 5) q3 (remF (hI h (b 37)) a 5)) q3 = 15 := by show hK (nw h q3 15 5) q3 = 15; rw [hK_nw, if_pos rfl]
          have n3 : hN (sI (nw h q3 15 5) q3 (remF (hI h (b 37)) a 5)) q3 = 5 := by show hN (nw h q3 15 5) q3 = 5; rw [hN_nw, if_pos rfl]
          generalize sI (nw h q3 15 5) q3 (remF (hI h (b 37)) a 5) = u3 at hE1 k3 n3 ⊢
          have fc3 := FC_ex fc hE1
          dsimp only [rs]
          refine j_callV2 dX11_remove_68 vl_X11_177 (c_shaped1 (fcS fc3) (fcCel fc3) k3 n3 (by decide) (by decide)) (by first | exact fcK fc 0 rfl rfl | exact (fcS fc).1 | exact (fcS fc3).1 | exact fcK fc4 0 rfl rfl) rfl (by decide) (by omega) (by omega) (Nat.le_of_ble_eq_true rfl) (fun v_68 u_68 p_68 => ?_)
          obtain ⟨q4, rfl, hq4, k4, hE4⟩ := p_68
          have fc4 := FC_ex fc3 hE4
          dsimp only [rs]
          refine j_callV1 dX11_remove_71 vl_X11_145 (d_step (FS_fc fc4)) (by first | exact fcK fc 0 rfl rfl | exact (fcS fc).1 | exact (fcS fc3).1 | exact fcK fc4 0 rfl rfl) rfl (by decide) (by omega) (by omega) (Nat.le_of_ble_eq_true rfl) (fun v_71 u_71 p_71 => ?_)
          obtain ⟨rfl, rfl⟩ := p_71
          dsimp only [rs]
          refine j_aload_n dX11_remove_74 rfl ?_
          refine j_alen dX11_remove_75 (t := 1) (show hK (stp11 u_68 b w (some q4)) (b 37) = 15 from fcK fc4 37 rfl rfl) (by decide) ?_
          rw [show hN (stp11 u_68 b w (some q4)) (b 37) = 6 from fcN fc4 37 rfl rfl]
          refine j_iconst (v := 1) dX11_remove_76 (by decide) ?_
          refine j_isub dX11_remove_77 ?_
          exact j_ireturn dX11_remove_78 rfl rfl ⟨stp11_fr (Fr_tr2 (frE hE1) (frE hE4) (fun _ _ z => z)), rfl, rfl⟩
        · exact absurd (by decide) c_46
      · have eq : (if 1 ≤ y ∧ y ≤ 6 then 0 else 2 : Int32) = 2 := if_neg (by simp only [le_i, lt_i, Int32.reduceToInt, show (nI 6 : Int32).toInt = 6 from rfl] at *; omega)
        exact j_throw (E := "java/lang/IndexOutOfBoundsException") ⟨117, 119, by decide, dX11_remove_35, dX11_remove_38, dX11_remove_39, dX11_remove_42⟩ (by omega) (by omega) (Nat.le_of_ble_eq_true rfl) ⟨Fr_rf, by rw [eq]; decide, by rw [eq]; rfl⟩
  · exact absurd (by decide) c_4

set_option maxRecDepth 20000 in
theorem d_move1 {h : Hp} {b : Nat → Nat} {w xw : Nat} (y z : Int32) (fc : FC h b w xw) : ConX mX11_move 6 5 400 [vr (some (b 0)), vi 1, vi y, vi z] h (px h b w xw ["java/lang/IllegalArgumentException", "java/lang/IndexOutOfBoundsException"] (if (1 ≤ y ∧ y ≤ 6 ∧ 1 ≤ z ∧ z ≤ 6) then 0 else 2) (mvR 6 y z)) := by
  refine con_ofX rfl (Nat.le_of_ble_eq_true rfl) (by decide) (by decide) ?_
  show J mX11_move 6 5 400 _ 0 [some (vr (some (b 0))), some (vi 1), some (vi y), some (vi z), none] [] h
  refine j_iload_n dX11_move_0 rfl ?_
  refine j_callS1 dX11_move_1 sl_X11_156 (c_isAxis _) rfl (by decide) (by omega) (by omega) (Nat.le_of_ble_eq_true rfl) (fun v_1 u_1 p_1 => ?_)
  obtain ⟨e_1, rfl⟩ := p_1
  rw [e_1]
  clear e_1
  dsimp only [rs]
  refine j_if_ne 15 dX11_move_4 (by decide) (fun c_4 => ?_) (fun c_4 => ?_)
  · refine j_aload_n dX11_move_15 rfl ?_
    refine j_getR dX11_move_16 fl_X11_104 rfl (fcK fc 0 rfl rfl) (fcW fc) ?_
    refine j_iload_n dX11_move_19 rfl ?_
    refine j_callV1 dX11_move_20 vl_X11_160 (c_line1 (fcS fc)) (fcS fc).1 rfl (by decide) (by omega) (by omega) (Nat.le_of_ble_eq_true rfl) (fun v_20 u_20 p_20 => ?_)
    obtain ⟨e_20, rfl⟩ := p_20
    rw [e_20]
    clear e_20
    dsimp only [rs]
    refine j_astore dX11_move_23 (by decide) ?_
    dsimp only [st1, st2, unL, List.set]
    refine j_iload_n dX11_move_25 rfl ?_
    refine j_iconst (v := 1) dX11_move_26 (by decide) ?_
    refine j_icmp_lt 49 dX11_move_27 (by decide) (fun c_27 => ?_) (fun c_27 => ?_)
    · have eq : (if (1 ≤ y ∧ y ≤ 6 ∧ 1 ≤ z ∧ z ≤ 6) then 0 else 2 : Int32) = 2 := if_neg (by simp only [le_i, lt_i, Int32.reduceToInt, show (nI 6 : Int32).toInt = 6 from rfl] at *; omega)
      exact j_throw (E := "java/lang/IndexOutOfBoundsException") ⟨117, 119, by decide, dX11_move_49, dX11_move_52, dX11_move_53, dX11_move_56⟩ (by omega) (by omega) (Nat.le_of_ble_eq_true rfl) ⟨Fr_rf, by rw [eq]; decide, by rw [eq]; rfl⟩
    · refine j_iload_n dX11_move_30 rfl ?_
      refine j_aload dX11_move_31 rfl ?_
      refine j_alen dX11_move_33 (t := 1) (fcK fc 37 rfl rfl) (by decide) ?_
      rw [fcN fc 37 (c := 6) rfl rfl]
      refine j_icmp_gt 49 dX11_move_34 (by decide) (fun c_34 => ?_) (fun c_34 => ?_)
      · have eq : (if (1 ≤ y ∧ y ≤ 6 ∧ 1 ≤ z ∧ z ≤ 6) then 0 else 2 : Int32) = 2 := if_neg (by simp only [le_i, lt_i, Int32.reduceToInt, show (nI 6 : Int32).toInt = 6 from rfl] at *; omega)
        exact j_throw (E := "java/lang/IndexOutOfBoundsException") ⟨117, 119, by decide, dX11_move_49, dX11_move_52, dX11_move_53, dX11_move_56⟩ (by omega) (by omega) (Nat.le_of_ble_eq_true rfl) ⟨Fr_rf, by rw [eq]; decide, by rw [eq]; rfl⟩
      · refine j_iload_n dX11_move_37 rfl ?_
        refine j_iconst (v := 1) dX11_move_38 (by decide) ?_
        refine j_icmp_lt 49 dX11_move_39 (by decide) (fun c_39 => ?_) (fun c_39 => ?_)
        · have eq : (if (1 ≤ y ∧ y ≤ 6 ∧ 1 ≤ z ∧ z ≤ 6) then 0 else 2 : Int32) = 2 := if_neg (by simp only [le_i, lt_i, Int32.reduceToInt, show (nI 6 : Int32).toInt = 6 from rfl] at *; omega)
          exact j_throw (E := "java/lang/IndexOutOfBoundsException") ⟨117, 119, by decide, dX11_move_49, dX11_move_52, dX11_move_53, dX11_move_56⟩ (by omega) (by omega) (Nat.le_of_ble_eq_true rfl) ⟨Fr_rf, by rw [eq]; decide, by rw [eq]; rfl⟩
        · refine j_iload_n dX11_move_42 rfl ?_
          refine j_aload dX11_move_43 rfl ?_
          refine j_alen dX11_move_45 (t := 1) (fcK fc 37 rfl rfl) (by decide) ?_
          rw [fcN fc 37 (c := 6) rfl rfl]
          refine j_icmp_le 57 dX11_move_46 (by decide) (fun c_46 => ?_) (fun c_46 => ?_)
          · have qq : (1 ≤ y ∧ y ≤ 6 ∧ 1 ≤ z ∧ z ≤ 6) := by simp only [le_i, lt_i, Int32.reduceToInt, show (nI 6 : Int32).toInt = 6 from rfl] at *; omega
            rw [if_pos qq]
            rw [mvR, if_pos qq]
            obtain ⟨q1, q2, q3_, q4_⟩ := id qq
            obtain ⟨a0, ha0, hv_, -⟩ := nI_ex (x := y) (n := 6) (by simp only [le_i, Int32.reduceToInt] at *; omega) (by simp only [le_i, Int32.reduceToInt] at *; omega)
            subst hv_
            obtain ⟨c0, hc0, hv_, -⟩ := nI_ex (x := z) (n := 6) (by simp only [le_i, Int32.reduceToInt] at *; omega) (by simp only [le_i, Int32.reduceToInt] at *; omega)
            subst hv_
            simp only [le_i, Int32.reduceToInt, nI_toInt (n := a0) (by omega), nI_toInt (n := c0) (by omega)] at qq
            obtain ⟨a, rfl⟩ : ∃ a, a0 = a + 1 := ⟨a0 - 1, by omega⟩
            obtain ⟨c, rfl⟩ : ∃ a, c0 = a + 1 := ⟨c0 - 1, by omega⟩
            refine j_aload_n dX11_move_57 rfl ?_
            refine j_aload_n dX11_move_58 rfl ?_
            refine j_getR dX11_move_59 fl_X11_104 rfl (fcK fc 0 rfl rfl) (fcW fc) ?_
            refine j_iload_n dX11_move_62 rfl ?_
            refine j_aload dX11_move_63 rfl ?_
            refine j_iload_n dX11_move_65 rfl ?_
            refine j_callS2 dX11_move_66 sl_X11_181 (c_without (la := b 37) (a := a) (m := 5) (fcK fc 37 rfl rfl) (fcN fc 37 rfl rfl) (by decide) (by omega)) rfl (by decide) (by omega) (by omega) (Nat.le_of_ble_eq_true rfl) (fun v_66 u_66 p_66 => ?_)
            obtain ⟨q3, hq3, rfl, rfl⟩ := p_66
            have hE1 : Ex h (sI (nw h q3 15 5) q3 (remF (hI h (b 37)) a 5)) := Fr_sI (Fr_nw Fr_rf hq3) (Or.inr hq3)
            have k3 : hK (sI (nw h q3 15 5) q3 (remF (hI h (b 37)) a 5)) q3 = 15 := by show hK (nw h q3 15 5) q3 = 15; rw [hK_nw, if_pos rfl]
            have n3 : hN (sI (nw h q3 15 5) q3 (remF (hI h (b 37)) a 5)) q3 = 5 := by show hN (nw h q3 15 5) q3 = 5; rw [hN_nw, if_pos rfl]
            generalize sI (nw h q3 15 5) q3 (remF (hI h (b 37)) a 5) = u3 at hE1 k3 n3 ⊢
            have fc3 := FC_ex fc hE1
            dsimp only [rs]
            refine j_iload_n dX11_move_69 rfl ?_
            refine j_aload dX11_move_70 rfl ?_
            refine j_iload_n dX11_move_72 rfl ?_
            refine j_iconst (v := 1) dX11_move_73 (by decide) ?_
            refine j_isub dX11_move_74 ?_
            rw [nI_pred]
            refine j_iald a dX11_move_75 (fcK fc3 37 rfl rfl) rfl (by rw [fcN fc3 37 (c := 6) rfl rfl]; omega) (by rw [fcN fc3 37 (c := 6) rfl rfl]; decide) ?_
            refine j_callS3 dX11_move_76 sl_X11_173 (c_with (la := q3) (a := c) (m := 5) _ k3 n3 (by decide) (by omega)) rfl (by decide) (by omega) (by omega) (Nat.le_of_ble_eq_true rfl) (fun v_76 u_76 p_76 => ?_)
            obtain ⟨q5, hq5, rfl, rfl⟩ := p_76
            have hE5 : Ex u3 (sI (nw u3 q5 15 (5 + 1)) q5 (insF (hI u3 q3) c (hI u3 (b 37) a) (5 + 1))) := Fr_sI (Fr_nw Fr_rf hq5) (Or.inr hq5)
            have k5 : hK (sI (nw u3 q5 15 (5 + 1)) q5 (insF (hI u3 q3) c (hI u3 (b 37) a) (5 + 1))) q5 = 15 := by show hK (nw u3 q5 15 (5 + 1)) q5 = 15; rw [hK_nw, if_pos rfl]
            have n5 : hN (sI (nw u3 q5 15 (5 + 1)) q5 (insF (hI u3 q3) c (hI u3 (b 37) a) (5 + 1))) q5 = 5 + 1 := by show hN (nw u3 q5 15 (5 + 1)) q5 = 5 + 1; rw [hN_nw, if_pos rfl]
            generalize sI (nw u3 q5 15 (5 + 1)) q5 (insF (hI u3 q3) c (hI u3 (b 37) a) (5 + 1)) = u5 at hE5 k5 n5 ⊢
            have fc5 := FC_ex fc3 hE5
            dsimp only [rs]
            refine j_callV2 dX11_move_79 vl_X11_177 (c_shaped1 (fcS fc5) (fcCel fc5) k5 n5 (by decide) (by decide)) (by first | exact fcK fc 0 rfl rfl | exact (fcS fc).1 | exact (fcS fc5).1 | exact fcK fc4 0 rfl rfl) rfl (by decide) (by omega) (by omega) (Nat.le_of_ble_eq_true rfl) (fun v_79 u_79 p_79 => ?_)
            obtain ⟨q4, rfl, hq4, k4, hE4⟩ := p_79
            have fc4 := FC_ex fc5 hE4
            dsimp only [rs]
            refine j_callV1 dX11_move_82 vl_X11_145 (d_step (FS_fc fc4)) (by first | exact fcK fc 0 rfl rfl | exact (fcS fc).1 | exact (fcS fc5).1 | exact fcK fc4 0 rfl rfl) rfl (by decide) (by omega) (by omega) (Nat.le_of_ble_eq_true rfl) (fun v_82 u_82 p_82 => ?_)
            obtain ⟨rfl, rfl⟩ := p_82
            dsimp only [rs]
            refine j_iload_n dX11_move_85 rfl ?_
            refine j_iload_n dX11_move_86 rfl ?_
            refine j_icmp_ne 94 dX11_move_87 (by decide) (fun c_87 => ?_) (fun c_87 => ?_)
            · refine j_iload_n dX11_move_94 rfl ?_
              refine j_iload_n dX11_move_95 rfl ?_
              refine j_isub dX11_move_96 ?_
              refine j_mabs dX11_move_97 sl_X11_185 (by decide) (Nat.le_of_ble_eq_true rfl) ?_
              refine j_iconst (v := 1) dX11_move_100 (by decide) ?_
              refine j_iadd dX11_move_101 ?_
              have hFF := stp11_fr (nx := some q4) (Fr_tr2 (Fr_tr2 (frE (S := CC b w xw) hE1) (frE hE5) (fun _ _ z => z)) (frE hE4) (fun _ _ z => z))
              first
                | exact j_ireturn dX11_move_102 rfl rfl ⟨hFF, rfl, by rw [if_pos (Classical.not_not.mp c_87)]⟩
                | (refine j_ireturn dX11_move_102 rfl rfl ⟨hFF, rfl, ?_⟩
                   rw [if_neg c_87]
                   have hac : a ≠ c := fun e => c_87 (by rw [e])
                   by_cases hlt : a < c
                   · rw [if_pos (nI_lt (by omega) (by omega)), if_neg (Int32.not_le.mpr (pk_sneg (by omega) (by omega)))]; congr 3; simp
                   · rw [if_neg (nI_nlt (by omega) (by omega)), if_pos (by rw [pk_sub (by omega)]; exact nI_pos' (by omega))])
            · refine j_iconst (v := 0) dX11_move_90 (by decide) ?_
              refine j_goto 102 dX11_move_91 (by decide) ?_
              have hFF := stp11_fr (nx := some q4) (Fr_tr2 (Fr_tr2 (frE (S := CC b w xw) hE1) (frE hE5) (fun _ _ z => z)) (frE hE4) (fun _ _ z => z))
              first
                | exact j_ireturn dX11_move_102 rfl rfl ⟨hFF, rfl, by rw [if_pos (Classical.not_not.mp c_87)]⟩
                | (refine j_ireturn dX11_move_102 rfl rfl ⟨hFF, rfl, ?_⟩
                   rw [if_neg c_87]
                   have hac : a ≠ c := fun e => c_87 (by rw [e])
                   by_cases hlt : a < c
                   · rw [if_pos (nI_lt (by omega) (by omega)), if_neg (Int32.not_le.mpr (pk_sneg (by omega) (by omega)))]; congr 3; simp
                   · rw [if_neg (nI_nlt (by omega) (by omega)), if_pos (by rw [pk_sub (by omega)]; exact nI_pos' (by omega))])
          · have eq : (if (1 ≤ y ∧ y ≤ 6 ∧ 1 ≤ z ∧ z ≤ 6) then 0 else 2 : Int32) = 2 := if_neg (by simp only [le_i, lt_i, Int32.reduceToInt, show (nI 6 : Int32).toInt = 6 from rfl] at *; omega)
            exact j_throw (E := "java/lang/IndexOutOfBoundsException") ⟨117, 119, by decide, dX11_move_49, dX11_move_52, dX11_move_53, dX11_move_56⟩ (by omega) (by omega) (Nat.le_of_ble_eq_true rfl) ⟨Fr_rf, by rw [eq]; decide, by rw [eq]; rfl⟩
  · exact absurd (by decide) c_4

set_option maxRecDepth 20000 in
theorem d_insertX {h : Hp} {b : Nat → Nat} {w xw : Nat} (x : Int32) (y : Int32) (fc : FC h b w xw) (hx : ¬ (0 ≤ x ∧ x ≤ 1)) : ConX mX11_insert 6 1 6 [vr (some (b 0)), vi x, vi y] h (px h b w xw ["java/lang/IllegalArgumentException", "java/lang/IndexOutOfBoundsException", "java/lang/IllegalStateException"] (1) (0)) := by
  refine con_ofX rfl (Nat.le_of_ble_eq_true rfl) (by decide) (by decide) ?_
  show J mX11_insert 6 1 6 _ 0 [some (vr (some (b 0))), some (vi x), some (vi y), none, none] [] h
  refine j_iload_n dX11_insert_0 rfl ?_
  refine j_callS1 dX11_insert_1 sl_X11_156 (c_isAxis _) rfl (by decide) (by omega) (by omega) (Nat.le_of_ble_eq_true rfl) (fun v_1 u_1 p_1 => ?_)
  obtain ⟨e_1, rfl⟩ := p_1
  rw [e_1]
  clear e_1
  dsimp only [rs]
  refine j_if_ne 15 dX11_insert_4 (by decide) (fun c_4 => ?_) (fun c_4 => ?_)
  · exact absurd c_4 (fun e => hx (by rcases b2_n.mp e with rfl | rfl <;> decide))
  · exact j_throw (E := "java/lang/IllegalArgumentException") ⟨127, 129, by decide, dX11_insert_7, dX11_insert_10, dX11_insert_11, dX11_insert_14⟩ (by omega) (by omega) (Nat.le_of_ble_eq_true rfl) (⟨Fr_rf, by rw [show (1 : Int32) = 1 from rfl]; decide, by rw [show (1 : Int32) = 1 from rfl]; rfl⟩)

set_option maxRecDepth 20000 in
theorem d_removeX {h : Hp} {b : Nat → Nat} {w xw : Nat} (x : Int32) (y : Int32) (fc : FC h b w xw) (hx : ¬ (0 ≤ x ∧ x ≤ 1)) : ConX mX11_remove 6 1 6 [vr (some (b 0)), vi x, vi y] h (px h b w xw ["java/lang/IllegalArgumentException", "java/lang/IndexOutOfBoundsException", "java/lang/IllegalStateException"] (1) (0)) := by
  refine con_ofX rfl (Nat.le_of_ble_eq_true rfl) (by decide) (by decide) ?_
  show J mX11_remove 6 1 6 _ 0 [some (vr (some (b 0))), some (vi x), some (vi y), none] [] h
  refine j_iload_n dX11_remove_0 rfl ?_
  refine j_callS1 dX11_remove_1 sl_X11_156 (c_isAxis _) rfl (by decide) (by omega) (by omega) (Nat.le_of_ble_eq_true rfl) (fun v_1 u_1 p_1 => ?_)
  obtain ⟨e_1, rfl⟩ := p_1
  rw [e_1]
  clear e_1
  dsimp only [rs]
  refine j_if_ne 15 dX11_remove_4 (by decide) (fun c_4 => ?_) (fun c_4 => ?_)
  · exact absurd c_4 (fun e => hx (by rcases b2_n.mp e with rfl | rfl <;> decide))
  · exact j_throw (E := "java/lang/IllegalArgumentException") ⟨127, 129, by decide, dX11_remove_7, dX11_remove_10, dX11_remove_11, dX11_remove_14⟩ (by omega) (by omega) (Nat.le_of_ble_eq_true rfl) (⟨Fr_rf, by rw [show (1 : Int32) = 1 from rfl]; decide, by rw [show (1 : Int32) = 1 from rfl]; rfl⟩)

set_option maxRecDepth 20000 in
theorem d_moveX {h : Hp} {b : Nat → Nat} {w xw : Nat} (x : Int32) (y z : Int32) (fc : FC h b w xw) (hx : ¬ (0 ≤ x ∧ x ≤ 1)) : ConX mX11_move 6 1 6 [vr (some (b 0)), vi x, vi y, vi z] h (px h b w xw ["java/lang/IllegalArgumentException", "java/lang/IndexOutOfBoundsException"] (1) (0)) := by
  refine con_ofX rfl (Nat.le_of_ble_eq_true rfl) (by decide) (by decide) ?_
  show J mX11_move 6 1 6 _ 0 [some (vr (some (b 0))), some (vi x), some (vi y), some (vi z), none] [] h
  refine j_iload_n dX11_move_0 rfl ?_
  refine j_callS1 dX11_move_1 sl_X11_156 (c_isAxis _) rfl (by decide) (by omega) (by omega) (Nat.le_of_ble_eq_true rfl) (fun v_1 u_1 p_1 => ?_)
  obtain ⟨e_1, rfl⟩ := p_1
  rw [e_1]
  clear e_1
  dsimp only [rs]
  refine j_if_ne 15 dX11_move_4 (by decide) (fun c_4 => ?_) (fun c_4 => ?_)
  · exact absurd c_4 (fun e => hx (by rcases b2_n.mp e with rfl | rfl <;> decide))
  · exact j_throw (E := "java/lang/IllegalArgumentException") ⟨127, 129, by decide, dX11_move_7, dX11_move_10, dX11_move_11, dX11_move_14⟩ (by omega) (by omega) (Nat.le_of_ble_eq_true rfl) (⟨Fr_rf, by rw [show (1 : Int32) = 1 from rfl]; decide, by rw [show (1 : Int32) = 1 from rfl]; rfl⟩)

