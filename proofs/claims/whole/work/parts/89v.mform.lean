/-! ===== copy: the reference ===== -/
/-- the fields 26 to n - 1 of part q are those of part p -/
def CpQ (w x : Mu) (q p : Int) (n : Nat) : Prop := OnQ w x q ∧ (∀ k, 26 ≤ k → k < n → k ≠ 29 → mI x k q = mI w k p) ∧ (29 < n → mG x 29 q = mG w 29 p)
theorem CpQ_i {w x : Mu} {q p : Int} {n : Nat} (hne : p ≠ q) (n0 : 26 ≤ n) (n1 : n ≤ 37) (n29 : n ≠ 29) (h : CpQ w x q p n) : CpQ w (uI x n q (mI x n p)) q p (n + 1) := by
  obtain ⟨h1, h2, h3⟩ := h
  refine ⟨OnQ_uI h1 n0 n1, fun k k0 k1 k2 => ?_, fun w => h3 (by omega)⟩
  rw [mI_uI]
  by_cases e : k = n
  · rw [if_pos ⟨e, rfl⟩, e]; exact h1.1 n p (fun w => hne w.1)
  · rw [if_neg (fun w => e w.1)]; exact h2 k k0 (by omega) k2
theorem CpQ_g {w x : Mu} {q p : Int} (hne : p ≠ q) (h : CpQ w x q p 29) : CpQ w (uG x 29 q (mG x 29 p)) q p 30 := by
  obtain ⟨h1, h2, h3⟩ := h
  refine ⟨⟨h1.1, fun k i n => ?_⟩, fun k k0 k1 k2 => h2 k k0 (by omega) k2, fun _ => ?_⟩
  · rw [mG_uG, if_neg (by rintro ⟨rfl, rfl⟩; exact n ⟨rfl, rfl⟩)]; exact h1.2 k i n
  · rw [mG_uG, if_pos ⟨rfl, rfl⟩]; exact h1.2 29 p (fun w => hne w.1)
theorem CpQ_P {w x : Mu} {q p : Int} {pt : Prt} {nx : Int} (h0 : 0 ≤ mI w 0 19) (h : CpQ w x q p 38) (k : PrtM w p pt nx) : PrtM x q pt nx := by
  obtain ⟨h1, h2, h3⟩ := h
  obtain ⟨a1, a2, a3, a4, a5, a6, a7, a8, a9, wp⟩ := k
  refine ⟨(h2 26 (by decide) (by decide) (by decide)).trans a1, (h2 27 (by decide) (by decide) (by decide)).trans a2, ?_, (h2 32 (by decide) (by decide) (by decide)).trans a4, (h2 33 (by decide) (by decide) (by decide)).trans a5, (h2 34 (by decide) (by decide) (by decide)).trans a6, (h2 35 (by decide) (by decide) (by decide)).trans a7, (h2 36 (by decide) (by decide) (by decide)).trans a8, (h2 37 (by decide) (by decide) (by decide)).trans a9, wp⟩
  have e29 := h3 (by decide)
  have e30 := h2 30 (by decide) (by decide) (by decide)
  have e31 := h2 31 (by decide) (by decide) (by decide)
  revert a3
  cases pt.2.2.1 with
  | none => rintro ⟨g1, g2, g3⟩; exact ⟨e29.trans g1, e30.trans g2, e31.trans g3⟩
  | some l =>
    rintro ⟨g1, g2, g3⟩
    refine ⟨e29.trans g1, e31.trans g2, ?_⟩
    rw [e30]
    obtain ⟨t1, t2, t3⟩ := g3
    exact ⟨t1, by rw [h1.1 0 19 (by omega)]; exact t2, fun i hi => by rw [h1.1 18 _ (by omega)]; exact t3 i hi⟩
theorem shfQ_rc (S : SS) (dr dc : Int) (p : Prt) : isRC (shfQ S dr dc p).1 ↔ isRC p.1 := by
  unfold shfQ
  split
  · next h =>
    unfold shfP
    split
    · constructor
      · rintro (w | w) <;> cases w
      · unfold isRC; omega
    · exact Iff.rfl
  · exact Iff.rfl
theorem shfQ_a {S : SS} {dr dc : Int} {p : Prt} (h : WfP p) : (shfQ S dr dc p).2.1 = p.2.1 := by
  unfold shfQ
  split
  · next hpl =>
    have wa := h.2.2.2.2.1
    have args : p.2.1 = 0 := by unfold argL argM at wa; rcases hpl with e | e <;> rw [e] at wa <;> simp at wa <;> omega
    unfold shfP
    split
    · exact args.symm
    · exact args.symm
  · rfl
theorem spnL_f {f : Prt → Prt} (ps : List Prt) (h : ∀ p ∈ ps, (f p).2.1 = p.2.1) : spnL (ps.map f) = spnL ps := by
  unfold spnL
  have key : ∀ (qs : List Prt) (acc : List Int), (∀ p ∈ qs, (f p).2.1 = p.2.1) → (qs.map f).foldl (fun sp p => sp ++ [1 + undS sp p.2.1.toNat ((sp.length : Int) - 1)]) acc = qs.foldl (fun sp p => sp ++ [1 + undS sp p.2.1.toNat ((sp.length : Int) - 1)]) acc := by
    intro qs
    induction qs with
    | nil => intro acc _; rfl
    | cons q qs ih =>
      intro acc hq
      rw [List.map_cons, List.foldl_cons, List.foldl_cons, hq q List.mem_cons_self]
      exact ih _ (fun p hp => hq p (List.mem_cons_of_mem _ hp))
  exact key ps [] h
theorem gD_nx {ps : List Prt} {S : SS} {dr dc : Int} (i : Nat) : isRC ((ps.map (shfQ S dr dc)).getD i pd0).1 ↔ isRC (ps.getD i pd0).1 := by
  by_cases h : i < ps.length
  · rw [gD_map h]; exact shfQ_rc S dr dc _
  · have e1 : (ps.map (shfQ S dr dc)).getD i pd0 = pd0 := by rw [List.getD_eq_getElem?_getD, List.getElem?_eq_none (by rw [List.length_map]; omega)]; rfl
    have e2 : ps.getD i pd0 = pd0 := by rw [List.getD_eq_getElem?_getD, List.getElem?_eq_none (by omega)]; rfl
    rw [e1, e2]
theorem shfQ_o (S : SS) (dr dc : Int) (p : Prt) : (shfQ S dr dc p).1 = p.1 ∨ ((shfQ S dr dc p).1 = 15 ∧ (p.1 = 16 ∨ p.1 = 17)) := by
  unfold shfQ
  split
  · next h =>
    unfold shfP
    split
    · exact Or.inr ⟨rfl, h⟩
    · exact Or.inl rfl
  · exact Or.inl rfl
theorem gD_sh {ps : List Prt} {S : SS} {dr dc : Int} (i : Nat) : ((ps.map (shfQ S dr dc)).getD i pd0).1 = (ps.getD i pd0).1 ∨ (((ps.map (shfQ S dr dc)).getD i pd0).1 = 15 ∧ ((ps.getD i pd0).1 = 16 ∨ (ps.getD i pd0).1 = 17)) := by
  by_cases h : i < ps.length
  · rw [gD_map h]; exact shfQ_o S dr dc _
  · have e1 : (ps.map (shfQ S dr dc)).getD i pd0 = pd0 := by rw [List.getD_eq_getElem?_getD, List.getElem?_eq_none (by rw [List.length_map]; omega)]; rfl
    have e2 : ps.getD i pd0 = pd0 := by rw [List.getD_eq_getElem?_getD, List.getElem?_eq_none (by omega)]; rfl
    rw [e1, e2]; exact Or.inl rfl
theorem WfF_sh {ps : List Prt} {S : SS} {dr dc : Int} (wfa : ∀ p ∈ ps, WfP p) (h : WfF ps) : WfF (ps.map (shfQ S dr dc)) := by
  obtain ⟨h1, h2, h3⟩ := h
  unfold WfF
  rw [List.length_map, spnL_f ps (fun p hp => shfQ_a (wfa p hp))]
  refine ⟨fun i hi => ?_, h2, ?_⟩
  · have wp : WfP (ps.getD i pd0) := by rw [List.getD_eq_getElem?_getD, List.getElem?_eq_getElem hi]; exact wfa _ (List.getElem_mem hi)
    have ea : ((ps.map (shfQ S dr dc)).getD i pd0).2.1 = (ps.getD i pd0).2.1 := by rw [gD_map hi]; exact shfQ_a wp
    rw [ea]
    obtain ⟨g1, g2⟩ := h1 i hi
    refine ⟨g1, fun k hk => ?_⟩
    have g3 := g2 k hk
    have eo : ((ps.map (shfQ S dr dc)).getD i pd0).1 = (ps.getD i pd0).1 := by
      rcases gD_sh (S := S) (dr := dr) (dc := dc) (ps := ps) i with e | ⟨-, e⟩
      · exact e
      · exfalso
        have wa := (plc_la wp e).2
        omega
    rw [eo]
    generalize (wlk (spnL ps) ((ps.getD i pd0).2.1.toNat - 1 - k) ((i : Int) - 1)).toNat = j at g3 ⊢
    rcases gD_sh (S := S) (dr := dr) (dc := dc) (ps := ps) j with e | ⟨e, -⟩
    · rw [e]; exact g3
    · rw [e]; exact ⟨(by intro w; cases w), fun _ => Or.inl rfl⟩
  · rcases gD_sh (S := S) (dr := dr) (dc := dc) (ps := ps) (ps.length - 1) with e | ⟨e, -⟩
    · rw [e]; exact h3
    · rw [e]; decide
/-- where the sheets of a formula's parts lie -/
def ShAll (u : Mu) (S : SS) : Prop := ∀ v, isShP v S → ∃ t : Sh, (t.1 = (shOf v S).1 ∧ t.2.1 = (shOf v S).2.1 ∧ t.2.2.1 = (shOf v S).2.2.1) ∧ ShM u (slt v) t ∧ ShB t ∧ IdS t
theorem shfP_l {s t : Sh} {p : Prt} {dr dc : Int} (h : t.1 = s.1 ∧ t.2.1 = s.2.1 ∧ t.2.2.1 = s.2.2.1) : shfP t p dr dc = shfP s p dr dc := by
  obtain ⟨a, b, c, d⟩ := s
  obtain ⟨a', b', c', d'⟩ := t
  obtain ⟨h1, h2, h3⟩ := h
  simp only at h1 h2 h3
  subst h1
  subst h2
  subst h3
  rfl
theorem i_copyFormula {u : Mu} {S : SS} {x dr dc : Int} {l : Lit} {ps : List Prt} {P : Int → Mu → Prop} (B : CoB u) (hx : ContM u x (some (5, l, ps))) (hm : 0 ≤ mI u 0 25 ∧ mI u 0 25 + ps.length ≤ 60000) (hn : S.2.1.1 ≤ 40) (A : ∀ v, FrM wCf u v → Grw u v → ShAll v S) (vk : ∀ p ∈ ps, p.2.2.2.2.2 < S.2.1.1) (r0 : -100 ≤ dr ∧ dr ≤ 100) (c0 : -100 ≤ dc ∧ dc ≤ 100) (h : ∀ v, FrM wCf u v → Grw u v → mI v 0 25 = mI u 0 25 + ps.length → ContM v (mI u 0 25 + 1) (some (5, l, ps.map (shfQ S dr dc))) → P (mI u 0 25 + 1) v) : F_X12_copyFormula x dr dc u P := by
  obtain ⟨B1, B2, B3⟩ := B
  have hx' := hx
  unfold ContM at hx'
  simp only at hx'
  rw [if_pos trivial] at hx'
  obtain ⟨⟨x0, x1⟩, x2, ⟨⟨x3, x4⟩, x5⟩, x6, x7⟩ := hx'
  have wfp : ∀ i : Nat, i < ps.length → WfP (ps.getD i pd0) := fun i hi => (x7 i hi).1.2.2.2.2.2.2.2.2.2
  have wfa : ∀ p ∈ ps, WfP p := fun p hp => by
    obtain ⟨i, hi, e⟩ := List.getElem_of_mem hp
    have := wfp i hi
    rw [List.getD_eq_getElem?_getD, List.getElem?_eq_getElem hi] at this
    rw [← e]; exact this
  unfold F_X12_copyFormula F_X12_copyFormula_13
  rw [w32e (x := x - 1) (by omega) (by omega), x2]
  refine ⟨by omega, by omega, ?_⟩
  generalize hM : mI u 0 25 = M at hm x1 h B3 ⊢
  refine lp_I (fun t => (0 ≤ t.1 ∧ t.1 ≤ (ps.length : Int)) ∧ FrM wCf u t.2 ∧ mI t.2 0 25 = M ∧ (∀ k i, i < M → mI t.2 k i = mI u k i) ∧ (∀ i, i < M → mG t.2 29 i = mG u 29 i) ∧ ∀ j : Nat, (j : Int) < t.1 → PrtM t.2 (M + j) (shfQ S dr dc (ps.getD j pd0)) (ps.getD (j + 1) pd0).1 ∧ mI t.2 28 (M + j) = (spnL ps).getD j 0) (fun t => ((ps.length : Int) - t.1).toNat) ?_ (0, u) ⟨⟨by show (0 : Int) ≤ 0; decide, by show (0 : Int) ≤ _; omega⟩, FrM_rf, hM, fun _ _ _ => rfl, fun _ _ => rfl, fun j hj => absurd hj (by show ¬ (j : Int) < 0; omega)⟩
  rintro G ⟨k, w⟩ ⟨⟨k0, k1⟩, fw, w25, wI', wG', wP⟩ ih
  simp only at k0 k1 fw w25 wI' wG' wP
  unfold L_X12_copyFormula_13 F_X12_copyFormula_228 F_X12_copyFormula_236
  dsimp only
  have w19 : mI w 0 19 = mI u 0 19 := mE fw (R := [(0, some 19)]) (by decide) (wHas_i (by decide))
  have w24 : mI w 0 24 = mI u 0 24 := mE fw (R := [(0, some 24)]) (by decide) (wHas_i (by decide))
  have gw : Grw u w := ⟨⟨B1.1, by omega, by omega, by omega⟩, fun i i0 i1 => mE fw (R := [(18, none)]) (by decide) (wHas_a (by decide)), fun i i0 i1 => ⟨mE fw (R := [(20, none)]) (by decide) (wHas_a (by decide)), gE fw (R := [(21, none)]) (by decide) (wHas_a (by decide)), mE fw (R := [(22, none)]) (by decide) (wHas_a (by decide)), mE fw (R := [(23, none)]) (by decide) (wHas_a (by decide))⟩, fun i i0 i1 => ⟨wG' i (by omega), fun k _ _ => wI' k i (by omega)⟩⟩
  by_cases ek : (ps.length : Int) ≤ k
  · rw [if_pos ek]
    show 0 ≤ mI w 0 25 ∧ mI w 0 25 < 60420 ∧ _
    rw [w25]
    refine ⟨by omega, by omega, ?_⟩
    rintro _ rfl
    have e25 : mI (uI w 38 M (ps.length : Int)) 0 25 = M := by rw [mI_uI, if_neg (by omega)]; exact w25
    rw [e25, w32e (x := M + ps.length) (by omega) (by omega)]
    rintro _ rfl
    have e25' : mI (uI (uI w 38 M (ps.length : Int)) 0 25 (M + ps.length)) 0 25 = M + ps.length := by rw [mI_uI, if_pos ⟨rfl, rfl⟩]
    rw [e25', w32e (x := M + ps.length - ps.length) (by omega) (by omega), w32e (by omega) (by omega), show M + (ps.length : Int) - ps.length + 1 = M + 1 by omega]
    have fz : FrM wCf u (uI (uI w 38 M (ps.length : Int)) 0 25 (M + ps.length)) := FrM_uI (FrM_uI fw (wHas_a (by decide))) (wHas_i (by decide))
    have ez : ∀ k i, ¬ (k = 38 ∧ i = M) → ¬ (k = 0 ∧ i = 25) → mI (uI (uI w 38 M (ps.length : Int)) 0 25 (M + ps.length)) k i = mI w k i := fun k i n1 n2 => by rw [mI_uI, if_neg n2, mI_uI, if_neg n1]
    have gz : ∀ k i, mG (uI (uI w 38 M (ps.length : Int)) 0 25 (M + ps.length)) k i = mG w k i := fun k i => rfl
    have e38 : mI (uI (uI w 38 M (ps.length : Int)) 0 25 (M + ps.length)) 38 M = (ps.length : Int) := by rw [mI_uI, if_neg (by omega), mI_uI, if_pos ⟨rfl, rfl⟩]
    generalize uI (uI w 38 M (ps.length : Int)) 0 25 (M + ps.length) = y at fz ez gz e38 e25'
    have z19 := ez 0 19 (by omega) (by omega)
    have z24 := ez 0 24 (by omega) (by omega)
    have gy : Grw u y := ⟨⟨B1.1, by omega, by omega, by omega⟩, fun i i0 i1 => mE fz (R := [(18, none)]) (by decide) (wHas_a (by decide)), fun i i0 i1 => ⟨mE fz (R := [(20, none)]) (by decide) (wHas_a (by decide)), gE fz (R := [(21, none)]) (by decide) (wHas_a (by decide)), mE fz (R := [(22, none)]) (by decide) (wHas_a (by decide)), mE fz (R := [(23, none)]) (by decide) (wHas_a (by decide))⟩, fun i i0 i1 => ⟨by rw [gz]; exact wG' i (by omega), fun k h1 h2 => by rw [ez k i (by omega) (by omega)]; exact wI' k i (by omega)⟩⟩
    refine h y fz gy e25' ?_
    unfold ContM
    simp only
    rw [if_pos trivial, List.length_map]
    refine ⟨⟨by omega, by rw [e25']; omega⟩, by rw [show M + 1 - 1 = M by omega]; exact e38, ⟨⟨x3, x4⟩, ?_⟩, x6, fun i hi => ?_⟩
    · exact WfF_sh wfa x5
    · obtain ⟨g1, g2⟩ := wP i (by omega)
      rw [gD_map hi, spnL_f ps (fun p hp => shfQ_a (wfa p hp)), show M + 1 - 1 + (i : Int) = M + i by omega]
      refine ⟨PrtM_nx (gD_nx (S := S) (dr := dr) (dc := dc) (i + 1)).symm ?_, by rw [ez 28 (M + i) (by omega) (by omega)]; exact g2⟩
      obtain ⟨t1, t2, t3, t4, t5, t6, t7, t8, t9, t10⟩ := g1
      refine ⟨by rw [ez 26 _ (by omega) (by omega)]; exact t1, by rw [ez 27 _ (by omega) (by omega)]; exact t2, ?_, by rw [ez 32 _ (by omega) (by omega)]; exact t4, by rw [ez 33 _ (by omega) (by omega)]; exact t5, by rw [ez 34 _ (by omega) (by omega)]; exact t6, by rw [ez 35 _ (by omega) (by omega)]; exact t7, by rw [ez 36 _ (by omega) (by omega)]; exact t8, by rw [ez 37 _ (by omega) (by omega)]; exact t9, t10⟩
      revert t3
      unfold PliM
      cases (shfQ S dr dc (ps.getD i pd0)).2.2.1 with
      | none => rintro ⟨s1, s2, s3⟩; exact ⟨(gz 29 _).trans s1, by rw [ez 30 _ (by omega) (by omega)]; exact s2, by rw [ez 31 _ (by omega) (by omega)]; exact s3⟩
      | some ll =>
        rintro ⟨s1, s2, s3⟩
        refine ⟨(gz 29 _).trans s1, by rw [ez 31 _ (by omega) (by omega)]; exact s2, ?_⟩
        rw [ez 30 _ (by omega) (by omega)]
        exact ⟨s3.1, by rw [z19]; exact s3.2.1, fun j hj => by rw [ez 18 _ (by omega) (by omega)]; exact s3.2.2 j hj⟩
  · rw [if_neg ek, w25, w32e (x := x - 1) (by omega) (by omega), w32e (x := x - 1 + k) (by omega) (by omega), w32e (x := M + k) (by omega) (by omega), w32e (x := k + 1) (by omega) (by omega)]
    have hne : x - 1 + k ≠ M + k := by omega
    have hp0 : 0 ≤ x - 1 + k ∧ x - 1 + k < 60420 := by omega
    have hq0 : 0 ≤ M + k ∧ M + k < 60420 := by omega
    have c0' : CpQ w w (M + k) (x - 1 + k) 26 := ⟨OnQ_rf, fun k h1 h2 => by omega, fun h => by omega⟩
    refine ⟨hp0.1, hp0.2, hq0.1, hq0.2, fun u1 e1 => ?_⟩
    have q1 : CpQ w u1 (M + k) (x - 1 + k) 27 := e1 ▸ CpQ_i hne (by decide) (by decide) (by decide) c0'
    clear e1 c0'
    refine ⟨hp0.1, hp0.2, hq0.1, hq0.2, fun u2 e2 => ?_⟩
    have q2 : CpQ w u2 (M + k) (x - 1 + k) 28 := e2 ▸ CpQ_i hne (by decide) (by decide) (by decide) q1
    clear e2 q1
    refine ⟨hp0.1, hp0.2, hq0.1, hq0.2, fun u3 e3 => ?_⟩
    have q3 : CpQ w u3 (M + k) (x - 1 + k) 29 := e3 ▸ CpQ_i hne (by decide) (by decide) (by decide) q2
    clear e3 q2
    refine ⟨hp0.1, hp0.2, hq0.1, hq0.2, fun u4 e4 => ?_⟩
    have q4 : CpQ w u4 (M + k) (x - 1 + k) 30 := e4 ▸ CpQ_g hne q3
    clear e4 q3
    refine ⟨hp0.1, hp0.2, hq0.1, hq0.2, fun u5 e5 => ?_⟩
    have q5 : CpQ w u5 (M + k) (x - 1 + k) 31 := e5 ▸ CpQ_i hne (by decide) (by decide) (by decide) q4
    clear e5 q4
    refine ⟨hp0.1, hp0.2, hq0.1, hq0.2, fun u6 e6 => ?_⟩
    have q6 : CpQ w u6 (M + k) (x - 1 + k) 32 := e6 ▸ CpQ_i hne (by decide) (by decide) (by decide) q5
    clear e6 q5
    refine ⟨hp0.1, hp0.2, hq0.1, hq0.2, fun u7 e7 => ?_⟩
    have q7 : CpQ w u7 (M + k) (x - 1 + k) 33 := e7 ▸ CpQ_i hne (by decide) (by decide) (by decide) q6
    clear e7 q6
    refine ⟨hp0.1, hp0.2, hq0.1, hq0.2, fun u8 e8 => ?_⟩
    have q8 : CpQ w u8 (M + k) (x - 1 + k) 34 := e8 ▸ CpQ_i hne (by decide) (by decide) (by decide) q7
    clear e8 q7
    refine ⟨hp0.1, hp0.2, hq0.1, hq0.2, fun u9 e9 => ?_⟩
    have q9 : CpQ w u9 (M + k) (x - 1 + k) 35 := e9 ▸ CpQ_i hne (by decide) (by decide) (by decide) q8
    clear e9 q8
    refine ⟨hp0.1, hp0.2, hq0.1, hq0.2, fun u10 e10 => ?_⟩
    have q10 : CpQ w u10 (M + k) (x - 1 + k) 36 := e10 ▸ CpQ_i hne (by decide) (by decide) (by decide) q9
    clear e10 q9
    refine ⟨hp0.1, hp0.2, hq0.1, hq0.2, fun u11 e11 => ?_⟩
    have q11 : CpQ w u11 (M + k) (x - 1 + k) 37 := e11 ▸ CpQ_i hne (by decide) (by decide) (by decide) q10
    clear e11 q10
    refine ⟨hp0.1, hp0.2, hq0.1, hq0.2, fun v e12 => ?_⟩
    have qv : CpQ w v (M + k) (x - 1 + k) 38 := e12 ▸ CpQ_i hne (by decide) (by decide) (by decide) q11
    clear e12 q11
    obtain ⟨g1, g2⟩ := x7 k.toNat (by omega)
    rw [Int.toNat_of_nonneg k0] at g1 g2
    have pw : PrtM w (x - 1 + k) (ps.getD k.toNat pd0) (ps.getD (k.toNat + 1) pd0).1 := PrtM_g gw (by omega) (by omega) g1
    have pv := CpQ_P (by omega) qv pw
    have v28 : mI v 28 (M + k) = (spnL ps).getD k.toNat 0 := by rw [qv.2.1 28 (by decide) (by decide) (by decide), wI' 28 _ (by omega)]; exact g2
    have vp := vk _ (gD_mem (ps := ps) (i := k.toNat) (by omega))
    have wpk := wfp k.toNat (by omega)
    have fv : FrM wCf u v := FrM_tr fw (OnQ_fr qv.1)
    have vge : -1 ≤ (ps.getD k.toNat pd0).2.2.2.2.2 := by
      have := wpk.2.2.2.2.2
      split at this
      · exact this.2
      · have q := this.2; rw [q]; decide
    -- on with the part in its place
    have nx : ∀ y, OnQ v y (M + k) → mI y 28 (M + k) = mI v 28 (M + k) → PrtM y (M + k) (shfQ S dr dc (ps.getD k.toNat pd0)) (ps.getD (k.toNat + 1) pd0).1 → G (k + 1, y) := fun y oy y28 py => by
      have owy := OnQ_tr qv.1 oy
      refine ih (k + 1, y) ⟨⟨by show 0 ≤ k + 1; omega, by show k + 1 ≤ _; omega⟩, FrM_tr fw (OnQ_fr owy), by show mI y 0 25 = M; rw [owy.1 0 25 (by omega)]; exact w25, fun k' i hi => by show mI y k' i = _; rw [owy.1 k' i (by omega)]; exact wI' k' i hi, fun i hi => by show mG y 29 i = _; rw [owy.2 29 i (by omega)]; exact wG' i hi, fun j hj => ?_⟩ (by show ((ps.length : Int) - (k + 1)).toNat < ((ps.length : Int) - k).toNat; omega)
      replace hj : (j : Int) < k + 1 := hj
      show PrtM y (M + j) _ _ ∧ mI y 28 (M + j) = _
      by_cases ej : (j : Int) = k
      · have ejn : j = k.toNat := by omega
        rw [ejn, Int.toNat_of_nonneg k0]
        exact ⟨py, by rw [y28]; exact v28⟩
      · obtain ⟨p1, p2⟩ := wP j (by omega)
        refine ⟨?_, by rw [owy.1 28 _ (by omega)]; exact p2⟩
        obtain ⟨t1, t2, t3, t4, t5, t6, t7, t8, t9, t10⟩ := p1
        have ez : ∀ k', mI y k' (M + j) = mI w k' (M + j) := fun k' => owy.1 k' _ (by omega)
        refine ⟨by rw [ez]; exact t1, by rw [ez]; exact t2, ?_, by rw [ez]; exact t4, by rw [ez]; exact t5, by rw [ez]; exact t6, by rw [ez]; exact t7, by rw [ez]; exact t8, by rw [ez]; exact t9, t10⟩
        revert t3
        unfold PliM
        cases (shfQ S dr dc (ps.getD j pd0)).2.2.1 with
        | none => rintro ⟨s1, s2, s3⟩; exact ⟨(owy.2 29 _ (by omega)).trans s1, by rw [ez]; exact s2, by rw [ez]; exact s3⟩
        | some ll =>
          rintro ⟨s1, s2, s3⟩
          refine ⟨(owy.2 29 _ (by omega)).trans s1, by rw [ez]; exact s2, ?_⟩
          rw [ez]
          exact ⟨s3.1, by rw [owy.1 0 19 (by omega)]; exact s3.2.1, fun j hj => by rw [owy.1 18 _ (by omega)]; exact s3.2.2 j hj⟩
    have v19 : mI v 0 19 = mI u 0 19 := by rw [qv.1.1 0 19 (by omega)]; exact w19
    have v24 : mI v 0 24 = mI u 0 24 := by rw [qv.1.1 0 24 (by omega)]; exact w24
    have v25 : mI v 0 25 = M := by rw [qv.1.1 0 25 (by omega)]; exact w25
    have gv : Grw u v := ⟨⟨B1.1, by omega, by omega, by omega⟩, fun i i0 i1 => mE fv (R := [(18, none)]) (by decide) (wHas_a (by decide)), fun i i0 i1 => ⟨mE fv (R := [(20, none)]) (by decide) (wHas_a (by decide)), gE fv (R := [(21, none)]) (by decide) (wHas_a (by decide)), mE fv (R := [(22, none)]) (by decide) (wHas_a (by decide)), mE fv (R := [(23, none)]) (by decide) (wHas_a (by decide))⟩, fun i i0 i1 => ⟨by rw [qv.1.2 29 i (by omega)]; exact wG' i (by omega), fun k _ _ => by rw [qv.1.1 k i (by omega)]; exact wI' k i (by omega)⟩⟩
    have k26 : mI v 26 (M + k) = kM (ps.getD k.toNat pd0) := pv.1
    have sh : (ps.getD k.toNat pd0).1 = 16 ∨ (ps.getD k.toNat pd0).1 = 17 → F_X12_shift (M + k) dr dc v (fun u_233 => G (k + 1, u_233)) := fun pl => by
      obtain ⟨t, tl, m1, m2, m3⟩ := A v fv gv _ ⟨vge, vp⟩
      refine i_shift hq0 pv pl (by omega) m2 m3 m1 r0 c0 (fun y oy y28 py => nx y oy y28 ?_)
      unfold shfQ; rw [if_pos pl, ← shfP_l tl]; exact py
    rw [k26]
    by_cases e16 : (ps.getD k.toNat pd0).1 = 16
    · rw [if_pos (by unfold kM; rw [e16]; rfl)]; exact sh (Or.inl e16)
    · by_cases e17 : (ps.getD k.toNat pd0).1 = 17
      · rw [if_neg (by unfold kM; rw [e17]; show ¬ (6 : Int) = 5; decide), if_pos (by unfold kM; rw [e17]; rfl)]; exact sh (Or.inr e17)
      · have hk : kM (ps.getD k.toNat pd0) ≠ 5 ∧ kM (ps.getD k.toNat pd0) ≠ 6 := by
          obtain ⟨q1, q2, -⟩ := wpk
          generalize ps.getD k.toNat pd0 = p at q1 q2 e16 e17
          unfold kM
          revert q2
          cases p.2.2.1 with
          | none => intro q2; simp only; constructor <;> (repeat' split) <;> omega
          | some ll => intro q2; have := q2.2.1; simp only; constructor <;> (repeat' split) <;> omega
        rw [if_neg hk.1, if_neg hk.2]
        refine nx v OnQ_rf rfl ?_
        unfold shfQ; rw [if_neg (by omega)]; exact pv
