/-! ===== in general: sheets of another shape, with their cells ===== -/
theorem rc_inj {nc i j i' j' : Nat} (h1 : j < nc) (h2 : j' < nc) (e : i * nc + j = i' * nc + j') : i = i' ∧ j = j' := by
  have a1 : (i * nc + j) / nc = i := by rw [Nat.mul_comm, Nat.mul_add_div (by omega), Nat.div_eq_of_lt h1, Nat.add_zero]
  have a2 : (i' * nc + j') / nc = i' := by rw [Nat.mul_comm, Nat.mul_add_div (by omega), Nat.div_eq_of_lt h2, Nat.add_zero]
  have e2 : i = i' := by rw [← a1, ← a2, e]
  subst e2
  exact ⟨rfl, by omega⟩
def dn0 (h u : Hp) (xa ra la nr nc xq i k : Nat) : Prop := ∀ i' j', j' < nc → (i' < i ∨ (i' = i ∧ j' < k)) → hO u xq (i' * nc + j') = atG h xa nc (pl1 (hI h ra) (hI h la i') nr) (j' + 1)
theorem dn0_s {h u : Hp} {xa ra la nr nc xq i k : Nat} {v : Option Nat} (hd : dn0 h u xa ra la nr nc xq i k) (hk : k < nc) (hv : v = atG h xa nc (pl1 (hI h ra) (hI h la i) nr) (k + 1)) : dn0 h (pO u xq (i * nc + k) v) xa ra la nr nc xq i (k + 1) := fun i' j' hj hc => by
  by_cases e : i' = i ∧ j' = k
  · obtain ⟨rfl, rfl⟩ := e
    rw [hO_pO, if_pos ⟨rfl, rfl⟩, hv]
  · rw [hO_pO, if_neg (fun z => e (rc_inj hj hk z.2))]
    exact hd i' j' hj (by omega)
theorem dn0_e {h u : Hp} {xa ra la nr nc xq i : Nat} (hd : dn0 h u xa ra la nr nc xq i nc) : dn0 h u xa ra la nr nc xq (i + 1) 0 := fun i' j' hj hc => hd i' j' hj (by omega)
def dn1 (h u : Hp) (xa ca la nr nc m xq i k : Nat) : Prop := ∀ i' j', i' < nr → j' < m → (j' < i ∨ (j' = i ∧ i' < k)) → hO u xq (i' * m + j') = atG h xa nc (i' + 1) (pl1 (hI h ca) (hI h la j') nc)
theorem dn1_s {h u : Hp} {xa ca la nr nc m xq i k : Nat} {v : Option Nat} (hd : dn1 h u xa ca la nr nc m xq i k) (hi : i < m) (hv : v = atG h xa nc (k + 1) (pl1 (hI h ca) (hI h la i) nc)) : dn1 h (pO u xq (k * m + i) v) xa ca la nr nc m xq i (k + 1) := fun i' j' hi2 hj hc => by
  by_cases e : i' = k ∧ j' = i
  · obtain ⟨rfl, rfl⟩ := e
    rw [hO_pO, if_pos ⟨rfl, rfl⟩, hv]
  · rw [hO_pO, if_neg (fun z => e (rc_inj hj hi z.2))]
    exact hd i' j' hi2 hj (by omega)
theorem dn1_e {h u : Hp} {xa ca la nr nc m xq i : Nat} (hd : dn1 h u xa ca la nr nc m xq i nr) : dn1 h u xa ca la nr nc m xq (i + 1) 0 := fun i' j' hi2 hj hc => hd i' j' hi2 hj (by omega)
theorem atG_ex {h u : Hp} {xa nc p q : Nat} (hE : Ex h u) (hk : hK h xa ≠ 0) : atG u xa nc p q = atG h xa nc p q := by
  unfold atG; rw [((hE xa hk).2.2 (fun z => z)).2.2]
set_option maxRecDepth 20000 in
theorem l_shS0b {h : Hp} {a ra ca xa nr nc la m : Nat} {q xq : Nat} {i p : Nat} (hs : Sh h a ra ca xa nr nc) (hc : Cel h xa (nr * nc)) (k1 : hK h la = 15) (k2 : hN h la = m) (m1 : 1 ≤ m) (m2 : m ≤ 32) (hq0 : hK h q = 0) (hxq0 : hK h xq = 0) (hqx : q ≠ xq) (hi : i < m) (hp : p ≤ nr) (hpe : p = pl1 (hI h ra) (hI h la i) nr) (fin : ∀ u, Ex h u ∧ Sh u q la ca xq m nc ∧ hO u q 3 = none ∧ dn0 h u xa ra la nr nc xq (i + 1) 0 → J mX6_shapedAlong 3 0 0 (nx (fun v u => ∃ q2 xq2, v = some (vr (some q2)) ∧ hK h q2 = 0 ∧ hK h xq2 = 0 ∧ Sh u q2 la ca xq2 m nc ∧ Ex h u ∧ hO u q2 3 = none ∧ dn0 h u xa ra la nr nc xq2 m 0)) 118 [some (vr (some a)), some (vi 0), some (vr (some la)), some (vr (some q)), some (vi (nI i)), none, none] [] u) : ∀ (n_ : Nat) (k : Nat) (u : Hp), nc - k < n_ → (k ≤ nc ∧ Ex h u ∧ Sh u q la ca xq m nc ∧ hO u q 3 = none ∧ dn0 h u xa ra la nr nc xq i k) → J mX6_shapedAlong 3 0 0 (nx (fun v u => ∃ q2 xq2, v = some (vr (some q2)) ∧ hK h q2 = 0 ∧ hK h xq2 = 0 ∧ Sh u q2 la ca xq2 m nc ∧ Ex h u ∧ hO u q2 3 = none ∧ dn0 h u xa ra la nr nc xq2 m 0)) 56 [some (vr (some a)), some (vi 0), some (vr (some la)), some (vr (some q)), some (vi (nI i)), some (vi (nI p)), some (vi (nI (k + 1)))] [] u := by
  intro n_
  induction n_ with
  | zero => intro k u hlt; omega
  | succ n_ ih =>
    intro k u hlt hinv
    obtain ⟨hk, hE, hS, h3, hD⟩ := hinv
    have hsU := Sh_fr hE (fun z => z) hs
    have hcU : Cel u xa (nr * nc) := Cel_ex hE hs.2.2.2.2.2.2.2.2.1 hc
    obtain ⟨-, -, -, -, -, -, -, -, -, -, l1, l2, l3, l4⟩ := id hs
    refine j_iload dX6_shapedAlong_56 rfl ?_
    refine j_aload_n dX6_shapedAlong_58 rfl ?_
    refine j_iconst (v := 1) dX6_shapedAlong_59 (by decide) ?_
    refine j_iload_n dX6_shapedAlong_60 rfl ?_
    refine j_isub dX6_shapedAlong_61 ?_
    rw [show (1 : Int32) - 0 = 1 from rfl]
    refine j_callV1 dX6_shapedAlong_62 vl_X6_36 (c_line1 hsU) (by first | exact hS.1 | exact hsU.1) rfl (by decide) (by omega) (by omega) (Nat.le_of_ble_eq_true rfl) (fun v_62 u_62 p_62 => ?_)
    obtain ⟨e_62, rfl⟩ := p_62
    rw [e_62]
    clear e_62
    dsimp only [rs]
    refine j_alen dX6_shapedAlong_65 (t := 1) hsU.2.2.2.2.2.2.1 (by decide) ?_
    rw [hsU.2.2.2.2.2.2.2.1]
    refine j_icmp_gt 118 dX6_shapedAlong_66 (by decide) (fun c_66 => ?_) (fun c_66 => ?_)
    · have hk2 : k = nc := by rw [nI_ltI (by omega) (by omega)] at c_66; omega
      subst hk2
      exact j_lle (by simp [lle]) (fin _ ⟨hE, hS, h3, dn0_e hD⟩)
    · have hlt2 : k < nc := by rw [nI_ltI (by omega) (by omega)] at c_66; omega
      refine j_iload_n dX6_shapedAlong_69 rfl ?_
      refine j_if_ne 94 dX6_shapedAlong_70 (by decide) (fun c_70 => ?_) (fun c_70 => ?_)
      · exact absurd c_70 (fun e => e rfl)
      · refine j_aload_n dX6_shapedAlong_73 rfl ?_
        refine j_iload dX6_shapedAlong_74 rfl ?_
        refine j_iconst (v := 1) dX6_shapedAlong_76 (by decide) ?_
        refine j_iadd dX6_shapedAlong_77 ?_
        rw [nI_1]
        refine j_iload dX6_shapedAlong_78 rfl ?_
        refine j_aload_n dX6_shapedAlong_80 rfl ?_
        refine j_iload dX6_shapedAlong_81 rfl ?_
        refine j_iload dX6_shapedAlong_83 rfl ?_
        refine j_callV2 dX6_shapedAlong_85 vl_X6_32 (c_atG p (k + 1) hp (by omega) hsU) (by first | exact hS.1 | exact hsU.1) rfl (by decide) (by omega) (by omega) (Nat.le_of_ble_eq_true rfl) (fun v_85 u_85 p_85 => ?_)
        obtain ⟨e_85, rfl⟩ := p_85
        rw [e_85]
        clear e_85
        dsimp only [rs]
        refine j_callV3 dX6_shapedAlong_88 vl_X6_43 (c_put i k (by omega) (by omega) (fun v e => atG_c hcU hp (by omega) e) hS) (by first | exact hS.1 | exact hsU.1) rfl (by decide) (by omega) (by omega) (Nat.le_of_ble_eq_true rfl) (fun v_88 u_88 p_88 => ?_)
        obtain ⟨rfl, rfl⟩ := p_88
        dsimp only [rs]
        refine j_goto 112 dX6_shapedAlong_91 (by decide) ?_
        refine j_iinc dX6_shapedAlong_112 rfl ?_
        dsimp only [st1, st2, unL, List.set]
        refine j_goto 56 dX6_shapedAlong_115 (by decide) ?_
        refine j_lle (lv' := [some (vr (some a)), some (vi 0), some (vr (some la)), some (vr (some q)), some (vi (nI i)), some (vi (nI p)), some (vi (nI (k + 1 + 1)))]) (by first | (simp [lle, nI_1]; done) | (simp [lle, nI_1]; rfl)) ?_
        exact ih (k + 1) _ (by omega) ⟨by omega, Fr_pO hE (Or.inr hxq0), Sh_pO hS, by rw [hO_pO, if_neg (fun e => hqx e.1)]; exact h3, dn0_s hD hlt2 (by rw [atG_ex hE (by rw [hs.2.2.2.2.2.2.2.2.1]; decide), hpe])⟩

set_option maxRecDepth 20000 in
theorem l_shS0a {h : Hp} {a ra ca xa nr nc la m : Nat} {q xq : Nat} (hs : Sh h a ra ca xa nr nc) (hc : Cel h xa (nr * nc)) (k1 : hK h la = 15) (k2 : hN h la = m) (m1 : 1 ≤ m) (m2 : m ≤ 32) (hq0 : hK h q = 0) (hxq0 : hK h xq = 0) (hqx : q ≠ xq) : ∀ (n_ : Nat) (i : Nat) (u : Hp), m - i < n_ → (i ≤ m ∧ Ex h u ∧ Sh u q la ca xq m nc ∧ hO u q 3 = none ∧ dn0 h u xa ra la nr nc xq i 0) → J mX6_shapedAlong 3 0 0 (nx (fun v u => ∃ q2 xq2, v = some (vr (some q2)) ∧ hK h q2 = 0 ∧ hK h xq2 = 0 ∧ Sh u q2 la ca xq2 m nc ∧ Ex h u ∧ hO u q2 3 = none ∧ dn0 h u xa ra la nr nc xq2 m 0)) 35 [some (vr (some a)), some (vi 0), some (vr (some la)), some (vr (some q)), some (vi (nI i)), none, none] [] u := by
  intro n_
  induction n_ with
  | zero => intro i u hlt; omega
  | succ n_ ih =>
    intro i u hlt hinv
    obtain ⟨hk, hE, hS, h3, hD⟩ := hinv
    have hsU := Sh_fr hE (fun z => z) hs
    have hcU : Cel u xa (nr * nc) := Cel_ex hE hs.2.2.2.2.2.2.2.2.1 hc
    obtain ⟨-, -, -, -, -, -, -, -, -, -, l1, l2, l3, l4⟩ := id hs
    refine j_iload dX6_shapedAlong_35 rfl ?_
    refine j_aload_n dX6_shapedAlong_37 rfl ?_
    refine j_alen dX6_shapedAlong_38 (t := 1) (Fr_K hE k1 (by decide)) (by decide) ?_
    rw [Fr_N hE k1 (by decide) k2]
    refine j_icmp_ge 124 dX6_shapedAlong_39 (by decide) (fun c_39 => ?_) (fun c_39 => ?_)
    · have he : i = m := by rw [nI_leI (by omega) (by omega)] at c_39; omega
      subst he
      refine j_aload_n dX6_shapedAlong_124 rfl ?_
      exact j_areturn dX6_shapedAlong_125 rfl rfl ⟨q, xq, rfl, hq0, hxq0, hS, hE, h3, hD⟩
    · have hlt2 : i < m := by rw [nI_leI (by omega) (by omega)] at c_39; omega
      refine j_aload_n dX6_shapedAlong_42 rfl ?_
      refine j_iload_n dX6_shapedAlong_43 rfl ?_
      refine j_aload_n dX6_shapedAlong_44 rfl ?_
      refine j_iload dX6_shapedAlong_45 rfl ?_
      refine j_iald i dX6_shapedAlong_47 (Fr_K hE k1 (by decide)) rfl (by rw [Fr_N hE k1 (by decide) k2]; omega) (by rw [Fr_N hE k1 (by decide) k2]; omega) ?_
      refine j_callV2 dX6_shapedAlong_48 vl_X6_28 (c_placeOf0 _ hsU) hsU.1 rfl (by decide) (by omega) (by omega) (Nat.le_of_ble_eq_true rfl) (fun v_48 u_48 p_48 => ?_)
      obtain ⟨e_48, rfl⟩ := p_48
      rw [e_48]
      clear e_48
      dsimp only [rs]
      refine j_istore dX6_shapedAlong_51 (by decide) ?_
      dsimp only [st1, st2, unL, List.set]
      refine j_iconst (v := 1) dX6_shapedAlong_53 (by decide) ?_
      refine j_istore dX6_shapedAlong_54 (by decide) ?_
      dsimp only [st1, st2, unL, List.set]
      have hp := pl1_le (hI u ra) (hI u la i) (hN u ra)
      have eR : hI u ra = hI h ra := ((hE ra (by rw [hs.2.2.2.2.1]; decide)).2.2 (fun z => z)).1
      have eL : hI u la = hI h la := ((hE la (by rw [k1]; decide)).2.2 (fun z => z)).1
      rw [hsU.2.2.2.2.2.1, eR, eL] at hp ⊢
      obtain ⟨p, hpe⟩ : ∃ p, p = pl1 (hI h ra) (hI h la i) nr := ⟨_, rfl⟩
      rw [← hpe] at hp ⊢
      refine j_lle (lv' := [some (vr (some a)), some (vi 0), some (vr (some la)), some (vr (some q)), some (vi (nI i)), some (vi (nI p)), some (vi (nI (0 + 1)))]) (by first | (simp [lle, nI_1]; done) | (simp [lle, nI_1]; rfl)) ?_
      refine l_shS0b hs hc k1 k2 m1 m2 hq0 hxq0 hqx hlt2 hp hpe (fun u2 hu2 => ?_) (nc + 1) 0 _ (by omega) ⟨by omega, hE, hS, h3, hD⟩
      refine j_iinc dX6_shapedAlong_118 rfl ?_
      dsimp only [st1, st2, unL, List.set]
      refine j_goto 35 dX6_shapedAlong_121 (by decide) ?_
      refine j_lle (lv' := [some (vr (some a)), some (vi 0), some (vr (some la)), some (vr (some q)), some (vi (nI (i + 1))), none, none]) (by first | (simp [lle, nI_1]; done) | (simp [lle, nI_1]; rfl)) ?_
      exact ih (i + 1) _ (by omega) ⟨by omega, hu2⟩

set_option maxRecDepth 20000 in
theorem c_shapeS0 {h : Hp} {a ra ca xa nr nc la m : Nat} (hs : Sh h a ra ca xa nr nc) (hc : Cel h xa (nr * nc)) (k1 : hK h la = 15) (k2 : hN h la = m) (m1 : 1 ≤ m) (m2 : m ≤ 32) : Con mX6_shapedAlong 3 2 324 [vr (some a), vi 0, vr (some la)] h (fun v u => ∃ q2 xq2, v = some (vr (some q2)) ∧ hK h q2 = 0 ∧ hK h xq2 = 0 ∧ Sh u q2 la ca xq2 m nc ∧ Ex h u ∧ hO u q2 3 = none ∧ dn0 h u xa ra la nr nc xq2 m 0) := by
  obtain ⟨-, -, -, -, -, -, -, -, -, -, l1, l2, l3, l4⟩ := id hs
  refine con_of rfl (Nat.le_of_ble_eq_true rfl) (by decide) ?_
  show J mX6_shapedAlong 3 2 324 _ 0 [some (vr (some a)), some (vi 0), some (vr (some la)), none, none, none, none] [] h
  refine j_mono (mc' := 1 + 1) (ms' := 320 + fnum 6) (by first | decide | omega) (by first | decide | (simp only [fnum]; omega)) ?_
  refine j_new dX6_shapedAlong_0 cl_6 nl_X6_10 iw_6 zw_6 (fun q_0 hq_0 => ?_)
  refine j_dup dX6_shapedAlong_3 rfl ?_
  have fx : Ex h (nw h q_0 (6 + 1) 0) := Fr_nw Fr_rf hq_0
  have ga : hK (nw h q_0 (6 + 1) 0) q_0 = 7 := by rw [hK_nw, if_pos rfl]
  have g3 : hO (nw h q_0 (6 + 1) 0) q_0 3 = none := by rw [hO_nw, if_pos rfl]
  have hs1 := Sh_fr fx (fun z => z) hs
  generalize nw h q_0 (6 + 1) 0 = h1 at fx ga g3 hs1 ⊢
  refine j_iload_n dX6_shapedAlong_4 rfl ?_
  refine j_if_ne 12 dX6_shapedAlong_5 (by decide) (fun c_5 => ?_) (fun c_5 => ?_)
  · exact absurd c_5 (fun e => e rfl)
  · refine j_aload_n dX6_shapedAlong_8 rfl ?_
    refine j_goto 16 dX6_shapedAlong_9 (by decide) ?_
    refine j_iload_n dX6_shapedAlong_16 rfl ?_
    refine j_if_ne 27 dX6_shapedAlong_17 (by decide) (fun c_17 => ?_) (fun c_17 => ?_)
    · exact absurd c_17 (fun e => e rfl)
    · refine j_aload_n dX6_shapedAlong_20 rfl ?_
      refine j_getR dX6_shapedAlong_21 fl_X6_15 rfl hs1.1 hs1.2.2.1 ?_
      refine j_goto 28 dX6_shapedAlong_24 (by decide) ?_
      refine j_callI2 dX6_shapedAlong_28 il_X6_40 (c_shInit ga (Fr_K fx k1 (by decide)) (Fr_N fx k1 (by decide) k2) hs1.2.2.2.2.2.2.1 hs1.2.2.2.2.2.2.2.1 m2 l4) rfl (by decide) (by omega) (by omega) (Nat.le_of_ble_eq_true rfl) (fun v_28 u_28 p_28 => ?_)
      obtain ⟨rfl, xq, hq1, hu⟩ := p_28
      obtain ⟨s1, s2, fr, s4, s5⟩ := shInit_ok ga (Fr_K fx k1 (by decide)) (Fr_N fx k1 (by decide) k2) hs1.2.2.2.2.2.2.1 hs1.2.2.2.2.2.2.2.1 m1 m2 l3 l4 hq1 hu
      have hxq0 : hK h xq = 0 := Classical.byContradiction fun z => by rw [(fx xq z).1] at hq1; exact z hq1
      have hE : Ex h u_28 := Fr_tr2 fx fr (fun b hb z => by subst z; exact hb hq_0)
      dsimp only [rs]
      refine j_astore_n dX6_shapedAlong_31 (by decide) ?_
      dsimp only [st1, st2, unL, List.set]
      refine j_iconst (v := 0) dX6_shapedAlong_32 (by decide) ?_
      refine j_istore dX6_shapedAlong_33 (by decide) ?_
      dsimp only [st1, st2, unL, List.set]
      refine j_lle (lv' := [some (vr (some a)), some (vi 0), some (vr (some la)), some (vr (some q_0)), some (vi (nI 0)), none, none]) (by first | (simp [lle, nI_1]; done) | (simp [lle, nI_1]; rfl)) ?_
      refine j_mono (mc' := 0) (ms' := 0) (by omega) (by omega) ?_
      exact l_shS0a hs hc k1 k2 m1 m2 hq_0 hxq0 s5 (m + 1) 0 _ (by omega) ⟨by omega, hE, s1, s4.trans g3, fun i' j' hj hc2 => by omega⟩

set_option maxRecDepth 20000 in
theorem l_shS1b {h : Hp} {a ra ca xa nr nc la m : Nat} {q xq : Nat} {i p : Nat} (hs : Sh h a ra ca xa nr nc) (hc : Cel h xa (nr * nc)) (k1 : hK h la = 15) (k2 : hN h la = m) (m1 : 1 ≤ m) (m2 : m ≤ 10) (hq0 : hK h q = 0) (hxq0 : hK h xq = 0) (hqx : q ≠ xq) (hi : i < m) (hp : p ≤ nc) (hpe : p = pl1 (hI h ca) (hI h la i) nc) (fin : ∀ u, Ex h u ∧ Sh u q ra la xq nr m ∧ hO u q 3 = none ∧ dn1 h u xa ca la nr nc m xq (i + 1) 0 → J mX6_shapedAlong 3 0 0 (nx (fun v u => ∃ q2 xq2, v = some (vr (some q2)) ∧ hK h q2 = 0 ∧ hK h xq2 = 0 ∧ Sh u q2 ra la xq2 nr m ∧ Ex h u ∧ hO u q2 3 = none ∧ dn1 h u xa ca la nr nc m xq2 m 0)) 118 [some (vr (some a)), some (vi 1), some (vr (some la)), some (vr (some q)), some (vi (nI i)), none, none] [] u) : ∀ (n_ : Nat) (k : Nat) (u : Hp), nr - k < n_ → (k ≤ nr ∧ Ex h u ∧ Sh u q ra la xq nr m ∧ hO u q 3 = none ∧ dn1 h u xa ca la nr nc m xq i k) → J mX6_shapedAlong 3 0 0 (nx (fun v u => ∃ q2 xq2, v = some (vr (some q2)) ∧ hK h q2 = 0 ∧ hK h xq2 = 0 ∧ Sh u q2 ra la xq2 nr m ∧ Ex h u ∧ hO u q2 3 = none ∧ dn1 h u xa ca la nr nc m xq2 m 0)) 56 [some (vr (some a)), some (vi 1), some (vr (some la)), some (vr (some q)), some (vi (nI i)), some (vi (nI p)), some (vi (nI (k + 1)))] [] u := by
  intro n_
  induction n_ with
  | zero => intro k u hlt; omega
  | succ n_ ih =>
    intro k u hlt hinv
    obtain ⟨hk, hE, hS, h3, hD⟩ := hinv
    have hsU := Sh_fr hE (fun z => z) hs
    have hcU : Cel u xa (nr * nc) := Cel_ex hE hs.2.2.2.2.2.2.2.2.1 hc
    obtain ⟨-, -, -, -, -, -, -, -, -, -, l1, l2, l3, l4⟩ := id hs
    refine j_iload dX6_shapedAlong_56 rfl ?_
    refine j_aload_n dX6_shapedAlong_58 rfl ?_
    refine j_iconst (v := 1) dX6_shapedAlong_59 (by decide) ?_
    refine j_iload_n dX6_shapedAlong_60 rfl ?_
    refine j_isub dX6_shapedAlong_61 ?_
    rw [show (1 : Int32) - 1 = 0 from rfl]
    refine j_callV1 dX6_shapedAlong_62 vl_X6_36 (c_line0 hsU) (by first | exact hS.1 | exact hsU.1) rfl (by decide) (by omega) (by omega) (Nat.le_of_ble_eq_true rfl) (fun v_62 u_62 p_62 => ?_)
    obtain ⟨e_62, rfl⟩ := p_62
    rw [e_62]
    clear e_62
    dsimp only [rs]
    refine j_alen dX6_shapedAlong_65 (t := 1) hsU.2.2.2.2.1 (by decide) ?_
    rw [hsU.2.2.2.2.2.1]
    refine j_icmp_gt 118 dX6_shapedAlong_66 (by decide) (fun c_66 => ?_) (fun c_66 => ?_)
    · have hk2 : k = nr := by rw [nI_ltI (by omega) (by omega)] at c_66; omega
      subst hk2
      exact j_lle (by simp [lle]) (fin _ ⟨hE, hS, h3, dn1_e hD⟩)
    · have hlt2 : k < nr := by rw [nI_ltI (by omega) (by omega)] at c_66; omega
      refine j_iload_n dX6_shapedAlong_69 rfl ?_
      refine j_if_ne 94 dX6_shapedAlong_70 (by decide) (fun c_70 => ?_) (fun c_70 => ?_)
      · refine j_aload_n dX6_shapedAlong_94 rfl ?_
        refine j_iload dX6_shapedAlong_95 rfl ?_
        refine j_iload dX6_shapedAlong_97 rfl ?_
        refine j_iconst (v := 1) dX6_shapedAlong_99 (by decide) ?_
        refine j_iadd dX6_shapedAlong_100 ?_
        rw [nI_1]
        refine j_aload_n dX6_shapedAlong_101 rfl ?_
        refine j_iload dX6_shapedAlong_102 rfl ?_
        refine j_iload dX6_shapedAlong_104 rfl ?_
        refine j_callV2 dX6_shapedAlong_106 vl_X6_32 (c_atG (k + 1) p (by omega) hp hsU) (by first | exact hS.1 | exact hsU.1) rfl (by decide) (by omega) (by omega) (Nat.le_of_ble_eq_true rfl) (fun v_106 u_106 p_106 => ?_)
        obtain ⟨e_106, rfl⟩ := p_106
        rw [e_106]
        clear e_106
        dsimp only [rs]
        refine j_callV3 dX6_shapedAlong_109 vl_X6_43 (c_put k i (by omega) (by omega) (fun v e => atG_c hcU (by omega) hp e) hS) (by first | exact hS.1 | exact hsU.1) rfl (by decide) (by omega) (by omega) (Nat.le_of_ble_eq_true rfl) (fun v_109 u_109 p_109 => ?_)
        obtain ⟨rfl, rfl⟩ := p_109
        dsimp only [rs]
        refine j_iinc dX6_shapedAlong_112 rfl ?_
        dsimp only [st1, st2, unL, List.set]
        refine j_goto 56 dX6_shapedAlong_115 (by decide) ?_
        refine j_lle (lv' := [some (vr (some a)), some (vi 1), some (vr (some la)), some (vr (some q)), some (vi (nI i)), some (vi (nI p)), some (vi (nI (k + 1 + 1)))]) (by first | (simp [lle, nI_1]; done) | (simp [lle, nI_1]; rfl)) ?_
        exact ih (k + 1) _ (by omega) ⟨by omega, Fr_pO hE (Or.inr hxq0), Sh_pO hS, by rw [hO_pO, if_neg (fun e => hqx e.1)]; exact h3, dn1_s hD (by omega) (by rw [atG_ex hE (by rw [hs.2.2.2.2.2.2.2.2.1]; decide), hpe])⟩
      · exact absurd (by decide) c_70

set_option maxRecDepth 20000 in
theorem l_shS1a {h : Hp} {a ra ca xa nr nc la m : Nat} {q xq : Nat} (hs : Sh h a ra ca xa nr nc) (hc : Cel h xa (nr * nc)) (k1 : hK h la = 15) (k2 : hN h la = m) (m1 : 1 ≤ m) (m2 : m ≤ 10) (hq0 : hK h q = 0) (hxq0 : hK h xq = 0) (hqx : q ≠ xq) : ∀ (n_ : Nat) (i : Nat) (u : Hp), m - i < n_ → (i ≤ m ∧ Ex h u ∧ Sh u q ra la xq nr m ∧ hO u q 3 = none ∧ dn1 h u xa ca la nr nc m xq i 0) → J mX6_shapedAlong 3 0 0 (nx (fun v u => ∃ q2 xq2, v = some (vr (some q2)) ∧ hK h q2 = 0 ∧ hK h xq2 = 0 ∧ Sh u q2 ra la xq2 nr m ∧ Ex h u ∧ hO u q2 3 = none ∧ dn1 h u xa ca la nr nc m xq2 m 0)) 35 [some (vr (some a)), some (vi 1), some (vr (some la)), some (vr (some q)), some (vi (nI i)), none, none] [] u := by
  intro n_
  induction n_ with
  | zero => intro i u hlt; omega
  | succ n_ ih =>
    intro i u hlt hinv
    obtain ⟨hk, hE, hS, h3, hD⟩ := hinv
    have hsU := Sh_fr hE (fun z => z) hs
    have hcU : Cel u xa (nr * nc) := Cel_ex hE hs.2.2.2.2.2.2.2.2.1 hc
    obtain ⟨-, -, -, -, -, -, -, -, -, -, l1, l2, l3, l4⟩ := id hs
    refine j_iload dX6_shapedAlong_35 rfl ?_
    refine j_aload_n dX6_shapedAlong_37 rfl ?_
    refine j_alen dX6_shapedAlong_38 (t := 1) (Fr_K hE k1 (by decide)) (by decide) ?_
    rw [Fr_N hE k1 (by decide) k2]
    refine j_icmp_ge 124 dX6_shapedAlong_39 (by decide) (fun c_39 => ?_) (fun c_39 => ?_)
    · have he : i = m := by rw [nI_leI (by omega) (by omega)] at c_39; omega
      subst he
      refine j_aload_n dX6_shapedAlong_124 rfl ?_
      exact j_areturn dX6_shapedAlong_125 rfl rfl ⟨q, xq, rfl, hq0, hxq0, hS, hE, h3, hD⟩
    · have hlt2 : i < m := by rw [nI_leI (by omega) (by omega)] at c_39; omega
      refine j_aload_n dX6_shapedAlong_42 rfl ?_
      refine j_iload_n dX6_shapedAlong_43 rfl ?_
      refine j_aload_n dX6_shapedAlong_44 rfl ?_
      refine j_iload dX6_shapedAlong_45 rfl ?_
      refine j_iald i dX6_shapedAlong_47 (Fr_K hE k1 (by decide)) rfl (by rw [Fr_N hE k1 (by decide) k2]; omega) (by rw [Fr_N hE k1 (by decide) k2]; omega) ?_
      refine j_callV2 dX6_shapedAlong_48 vl_X6_28 (c_placeOf1 _ hsU) hsU.1 rfl (by decide) (by omega) (by omega) (Nat.le_of_ble_eq_true rfl) (fun v_48 u_48 p_48 => ?_)
      obtain ⟨e_48, rfl⟩ := p_48
      rw [e_48]
      clear e_48
      dsimp only [rs]
      refine j_istore dX6_shapedAlong_51 (by decide) ?_
      dsimp only [st1, st2, unL, List.set]
      refine j_iconst (v := 1) dX6_shapedAlong_53 (by decide) ?_
      refine j_istore dX6_shapedAlong_54 (by decide) ?_
      dsimp only [st1, st2, unL, List.set]
      have hp := pl1_le (hI u ca) (hI u la i) (hN u ca)
      have eR : hI u ca = hI h ca := ((hE ca (by rw [hs.2.2.2.2.2.2.1]; decide)).2.2 (fun z => z)).1
      have eL : hI u la = hI h la := ((hE la (by rw [k1]; decide)).2.2 (fun z => z)).1
      rw [hsU.2.2.2.2.2.2.2.1, eR, eL] at hp ⊢
      obtain ⟨p, hpe⟩ : ∃ p, p = pl1 (hI h ca) (hI h la i) nc := ⟨_, rfl⟩
      rw [← hpe] at hp ⊢
      refine j_lle (lv' := [some (vr (some a)), some (vi 1), some (vr (some la)), some (vr (some q)), some (vi (nI i)), some (vi (nI p)), some (vi (nI (0 + 1)))]) (by first | (simp [lle, nI_1]; done) | (simp [lle, nI_1]; rfl)) ?_
      refine l_shS1b hs hc k1 k2 m1 m2 hq0 hxq0 hqx hlt2 hp hpe (fun u2 hu2 => ?_) (nr + 1) 0 _ (by omega) ⟨by omega, hE, hS, h3, hD⟩
      refine j_iinc dX6_shapedAlong_118 rfl ?_
      dsimp only [st1, st2, unL, List.set]
      refine j_goto 35 dX6_shapedAlong_121 (by decide) ?_
      refine j_lle (lv' := [some (vr (some a)), some (vi 1), some (vr (some la)), some (vr (some q)), some (vi (nI (i + 1))), none, none]) (by first | (simp [lle, nI_1]; done) | (simp [lle, nI_1]; rfl)) ?_
      exact ih (i + 1) _ (by omega) ⟨by omega, hu2⟩

set_option maxRecDepth 20000 in
theorem c_shapeS1 {h : Hp} {a ra ca xa nr nc la m : Nat} (hs : Sh h a ra ca xa nr nc) (hc : Cel h xa (nr * nc)) (k1 : hK h la = 15) (k2 : hN h la = m) (m1 : 1 ≤ m) (m2 : m ≤ 10) : Con mX6_shapedAlong 3 2 324 [vr (some a), vi 1, vr (some la)] h (fun v u => ∃ q2 xq2, v = some (vr (some q2)) ∧ hK h q2 = 0 ∧ hK h xq2 = 0 ∧ Sh u q2 ra la xq2 nr m ∧ Ex h u ∧ hO u q2 3 = none ∧ dn1 h u xa ca la nr nc m xq2 m 0) := by
  obtain ⟨-, -, -, -, -, -, -, -, -, -, l1, l2, l3, l4⟩ := id hs
  refine con_of rfl (Nat.le_of_ble_eq_true rfl) (by decide) ?_
  show J mX6_shapedAlong 3 2 324 _ 0 [some (vr (some a)), some (vi 1), some (vr (some la)), none, none, none, none] [] h
  refine j_mono (mc' := 1 + 1) (ms' := 320 + fnum 6) (by first | decide | omega) (by first | decide | (simp only [fnum]; omega)) ?_
  refine j_new dX6_shapedAlong_0 cl_6 nl_X6_10 iw_6 zw_6 (fun q_0 hq_0 => ?_)
  refine j_dup dX6_shapedAlong_3 rfl ?_
  have fx : Ex h (nw h q_0 (6 + 1) 0) := Fr_nw Fr_rf hq_0
  have ga : hK (nw h q_0 (6 + 1) 0) q_0 = 7 := by rw [hK_nw, if_pos rfl]
  have g3 : hO (nw h q_0 (6 + 1) 0) q_0 3 = none := by rw [hO_nw, if_pos rfl]
  have hs1 := Sh_fr fx (fun z => z) hs
  generalize nw h q_0 (6 + 1) 0 = h1 at fx ga g3 hs1 ⊢
  refine j_iload_n dX6_shapedAlong_4 rfl ?_
  refine j_if_ne 12 dX6_shapedAlong_5 (by decide) (fun c_5 => ?_) (fun c_5 => ?_)
  · refine j_aload_n dX6_shapedAlong_12 rfl ?_
    refine j_getR dX6_shapedAlong_13 fl_X6_9 rfl hs1.1 hs1.2.1 ?_
    refine j_iload_n dX6_shapedAlong_16 rfl ?_
    refine j_if_ne 27 dX6_shapedAlong_17 (by decide) (fun c_17 => ?_) (fun c_17 => ?_)
    · refine j_aload_n dX6_shapedAlong_27 rfl ?_
      refine j_callI2 dX6_shapedAlong_28 il_X6_40 (c_shInit ga hs1.2.2.2.2.1 hs1.2.2.2.2.2.1 (Fr_K fx k1 (by decide)) (Fr_N fx k1 (by decide) k2) l2 m2) rfl (by decide) (by omega) (by omega) (Nat.le_of_ble_eq_true rfl) (fun v_28 u_28 p_28 => ?_)
      obtain ⟨rfl, xq, hq1, hu⟩ := p_28
      obtain ⟨s1, s2, fr, s4, s5⟩ := shInit_ok ga hs1.2.2.2.2.1 hs1.2.2.2.2.2.1 (Fr_K fx k1 (by decide)) (Fr_N fx k1 (by decide) k2) l1 l2 m1 m2 hq1 hu
      have hxq0 : hK h xq = 0 := Classical.byContradiction fun z => by rw [(fx xq z).1] at hq1; exact z hq1
      have hE : Ex h u_28 := Fr_tr2 fx fr (fun b hb z => by subst z; exact hb hq_0)
      dsimp only [rs]
      refine j_astore_n dX6_shapedAlong_31 (by decide) ?_
      dsimp only [st1, st2, unL, List.set]
      refine j_iconst (v := 0) dX6_shapedAlong_32 (by decide) ?_
      refine j_istore dX6_shapedAlong_33 (by decide) ?_
      dsimp only [st1, st2, unL, List.set]
      refine j_lle (lv' := [some (vr (some a)), some (vi 1), some (vr (some la)), some (vr (some q_0)), some (vi (nI 0)), none, none]) (by first | (simp [lle, nI_1]; done) | (simp [lle, nI_1]; rfl)) ?_
      refine j_mono (mc' := 0) (ms' := 0) (by omega) (by omega) ?_
      exact l_shS1a hs hc k1 k2 m1 m2 hq_0 hxq0 s5 (m + 1) 0 _ (by omega) ⟨by omega, hE, s1, s4.trans g3, fun i' j' hi2 hj hc2 => by omega⟩
    · exact absurd (by decide) c_17
  · exact absurd (by decide) c_5

