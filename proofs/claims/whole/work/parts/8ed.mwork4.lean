/-! ===== the reference: a formula is worked out ===== -/
section Wk4
variable {s : Int} {E : Int → Sh} {V : Int → Int → Int → Lit} {q0 : Int} {ps : List Prt}
theorem mnl_18 : mkl.getD 18 0 = 14 ∧ 82400 ≤ mnl.getD 18 0 ∧ mnl.getD 18 0 ≤ 1000000 := by decide
theorem e_call {u : Mu} {i n N : Nat} {d : Int} {P : Mu → Prop} (HI : ∀ j, j < i → WkR s E V q0 ps j N) (hN : N ≤ n) (h : EvM u s E V q0 ps) (hi : i < ps.length) (c : 18 ≤ (ps.getD i pd0).1) (d0 : 0 ≤ d) (db : d ≤ bgI ps i) (p : ∀ v, FrT (fun x => d ≤ x) u v → HdM v d (EvA E V ps i) → P v) : F_X12_workCall (n + 2) (q0 + i) s d u P := by
  have W := h.2.2.2.1
  have wa := WfP_a (W.2 i hi)
  have d6 := d_60 h hi
  obtain ⟨b1, b2, b3, b4⟩ := E_op h hi
  have km := (kM_a (W.2 i hi)).2.2.1 c
  rw [F_X12_workCall_s]
  unfold B_X12_workCall
  refine ⟨b3, b4, ?_⟩
  unfold F_X12_workCall_195
  rw [b1.1, km]
  by_cases o18 : (ps.getD i pd0).1 = 18
  · rw [if_pos (by omega)]; exact e_if HI hN h hi o18 d0 db p
  rw [if_neg (by omega)]
  unfold F_X12_isMany
  refine e_in (fun o => ?_) (fun o => ?_)
  · refine ⟨Or.inr rfl, ?_⟩
    show (if (1 : Int) = 0 then _ else _)
    rw [if_neg (by decide)]
    exact e_many HI hN h hi (by omega) d0 db p
  refine ⟨Or.inl rfl, ?_⟩
  show (if (0 : Int) = 0 then _ else _)
  rw [if_pos rfl]
  have k57 : 29 ≤ (ps.getD i pd0).1 ∧ (ps.getD i pd0).1 ≤ 30 → F_X12_workCall_57 (F_X12_work (n + 1)) (F_X12_workCall (n + 1)) (F_X12_workEnd (n + 1)) (F_X12_workIf (n + 1)) (F_X12_workLook (n + 1)) (F_X12_workMany (n + 1)) (F_X12_workOne (n + 1)) (F_X12_workTwo (n + 1)) (q0 + i) s d ((ps.getD i pd0).1 + 12) u P := by
    intro o30
    have k0 : ((0 : Nat) : Int) < (ps.getD i pd0).2.1 := by omega
    have ai := agI_w W hi k0
    have ch := (chI W hi k0).2 (by omega)
    have e1 : q0 + i - 1 = q0 + ((agI ps i 0 : Nat) : Int) := by
      have e := ai.1
      rw [show (ps.getD i pd0).2.1.toNat - 1 - 0 = 0 by omega] at e
      have : wlk (spnL ps) 0 ((i : Int) - 1) = (i : Int) - 1 := rfl
      omega
    have ev : EvA E V ps i = rcV (ps.getD i pd0).1 (plE E ps (agI ps i 0)) := by
      show evV _ _ _ _ _ = _
      rw [evV_s W hi, st_30 o30]
    rw [ev] at p
    obtain ⟨t1, t2, t3, t4⟩ := E_op h (j := agI ps i 0) (by omega)
    have ka := kM_a (W.2 (agI ps i 0) (by omega))
    unfold F_X12_workCall_57
    rw [w32e (x := q0 + i - 1) (by omega) (by omega), e1]
    refine ⟨t3, t4, ?_⟩
    rw [t1.1]
    have none1 : plE E ps (agI ps i 0) = none → F_X12_error d 1 u (fun u_94 => P u_94) := by
      intro en
      rw [en] at p
      exact e_error d0 (by omega) (fun v f hv => p v (FrS_mo (FrT_of f) (fun x hx => by rw [hx]; exact Int.le_refl d)) hv)
    rcases ch with c15 | c16
    · rw [ka.2.2.2.2.1 c15, if_neg (by decide)]
      unfold F_X12_workCall_84 F_X12_workCall_139 F_X12_workCall_195
      rw [if_neg (by decide)]
      exact none1 (by unfold plE; rw [if_neg (by omega)])
    · rw [ka.2.2.2.2.2.1 c16, if_pos rfl]
      have pe : plE E ps (agI ps i 0) = spP (E (ps.getD (agI ps i 0) pd0).2.2.2.2.2) (ps.getD (agI ps i 0) pd0) := by unfold plE; rw [if_pos c16]
      obtain ⟨⟨m1, m2, m3, m4⟩, -⟩ := h.2.2.1.2 (agI ps i 0) (by omega) (Or.inl c16)
      refine e_spot h (by omega) c16 (fun en => ?_) (fun r k en => ?_)
      · unfold F_X12_workCall_84 F_X12_workCall_139 F_X12_workCall_195
        rw [if_neg (by decide)]
        exact none1 (pe.trans en)
      · have sb := spP_b m2 en
        rw [pe, en] at p
        generalize slV s (ps.getD (agI ps i 0) pd0).2.2.2.2.2 = sl at *
        unfold F_X12_workCall_84 F_X12_workCall_136 F_X12_workCall_139 F_X12_workCall_195
        have q1 : Int.tmod (320 * sl + 10 * r + k) 320 = 10 * r + k := by rw [tmodE (by omega)]; omega
        have q2 : Int.tdiv (10 * r + k) 10 = r := by rw [tdivE (by omega)]; omega
        have q3 : Int.tmod (10 * r + k) 10 = k := by rw [tmodE (by omega)]; omega
        rw [if_pos (by omega), q1, w32e (x := 10 * r + k) (by omega) (by omega), q2, q3, w32e (x := r) (by omega) (by omega), w32e (x := k) (by omega) (by omega), w32e (x := r + 1) (by omega) (by omega), w32e (x := k + 1) (by omega) (by omega)]
        have p : ∀ v, FrT (fun x => d ≤ x) u v → HdM v d (1, (if (ps.getD i pd0).1 = 29 then r else k) + 1, []) → P v := p
        by_cases o29 : (ps.getD i pd0).1 = 29
        · rw [if_pos (by omega)]
          rw [if_pos o29] at p
          refine e_number d0 (by omega) (fun v f hv => p v (FrS_mo (FrT_of f) (fun x hx => by rw [hx]; exact Int.le_refl d)) ?_)
          unfold nuL at hv
          rw [if_neg (by omega)] at hv; exact hv
        · rw [if_neg (by omega)]
          rw [if_neg o29] at p
          refine e_number d0 (by omega) (fun v f hv => p v (FrS_mo (FrT_of f) (fun x hx => by rw [hx]; exact Int.le_refl d)) ?_)
          unfold nuL at hv
          rw [if_neg (by omega)] at hv; exact hv
  by_cases o29 : (ps.getD i pd0).1 = 29
  · rw [if_pos (by omega)]; exact k57 (by omega)
  rw [if_neg (by omega)]
  by_cases o30 : (ps.getD i pd0).1 = 30
  · rw [if_pos (by omega)]; exact k57 (by omega)
  rw [if_neg (by omega)]
  refine e_in (fun o2 => ?_) (fun o2 => ?_)
  · rw [if_neg (by decide)]; exact e_one HI hN h hi (by omega) d0 db p
  rw [if_pos rfl]
  unfold F_X12_workCall_178 F_X12_workCall_195
  by_cases o31 : (ps.getD i pd0).1 = 31
  · rw [if_pos (by omega)]; exact e_end HI hN h hi (by omega) d0 db p
  rw [if_neg (by omega)]
  by_cases o32 : (ps.getD i pd0).1 = 32
  · rw [if_pos (by omega)]; exact e_end HI hN h hi (by omega) d0 db p
  rw [if_neg (by omega)]
  by_cases o34 : (ps.getD i pd0).1 = 34
  · exact e_look (ka := 1) (kv := 0) HI hN h hi (by omega) (Or.inl ⟨o34, rfl, rfl⟩) d0 db p
  · exact e_look (ka := 0) (kv := 1) HI hN h hi (by omega) (Or.inr ⟨o34, rfl, rfl⟩) d0 db p
theorem e_workS {u : Mu} {i n N : Nat} {d : Int} {P : Mu → Prop} (HI : ∀ j, j < i → WkR s E V q0 ps j N) (hN : N ≤ n) (h : EvM u s E V q0 ps) (hi : i < ps.length) (h17 : (ps.getD i pd0).1 ≠ 17) (na : ¬ alnP ps i) (d0 : 0 ≤ d) (db : d ≤ bgI ps i) (p : ∀ v, FrT (fun x => d ≤ x) u v → HdM v d (EvA E V ps i) → P v) : F_X12_work (n + 3) (q0 + i) s d u P := by
  have W := h.2.2.2.1
  have wp := W.2 i hi
  have wa := WfP_a wp
  have d6 := d_60 h hi
  obtain ⟨b1, b2, b3, b4⟩ := E_op h hi
  obtain ⟨ka1, ka2, ka3, ka4, ka5, ka6, -⟩ := kM_a wp
  have ev : EvA E V ps i = stV (svE E V ps) (avE E V ps) (plE E ps) ps (EvA E V ps) i := by
    show evV _ _ _ _ _ = _
    rw [evV_s W hi]; rfl
  have up : ∀ v, FrS (fun x => x = d) u v → FrT (fun x => d ≤ x) u v := fun v f => FrS_mo (FrT_of f) (fun x hx => by rw [hx]; exact Int.le_refl d)
  rw [F_X12_work_s]
  unfold B_X12_work
  refine ⟨b3, b4, ?_⟩
  unfold F_X12_work_82 F_X12_work_123 F_X12_work_220
  rw [b1.1]
  by_cases o14 : (ps.getD i pd0).1 = 14
  · obtain ⟨l, e1, e2, e3⟩ := ka4 o14
    rw [ev, st_14 o14, e1] at p
    have p : ∀ v, FrT (fun x => d ≤ x) u v → HdM v d l → P v := p
    have pl := b1.2.2.1
    unfold PliM at pl
    rw [e1] at pl
    obtain ⟨p29, p31, p30⟩ := pl
    rw [e3]
    obtain ⟨l1, l2, l3, l4, l5, l6, l7⟩ := e2
    by_cases k1 : l.1 = 1
    · rw [if_pos k1]
      refine ⟨b3, b4, ?_⟩
      rw [p29]
      have := l2 k1
      refine e_number d0 (by omega) (fun v f hv => p v (up v f) ?_)
      unfold nuL at hv
      rw [if_neg (by omega)] at hv
      have e : l = (1, l.2.1, []) := by rw [← k1, ← l5 (by omega)]
      rw [e]; exact hv
    rw [if_neg k1]
    by_cases k2 : l.1 = 2
    · rw [if_pos k2]
      refine ⟨b3, b4, b3, b4, ?_⟩
      rw [p31]
      have cb := h.1
      obtain ⟨q1, q2, q3⟩ := p30
      have mn := mnl_18
      refine e_text (bs := l.2.2) d0 (by omega) mn.1 (by decide) rfl l6 q1 (by have := cb.1.2; omega) (by omega) q3 (fun v f hv => p v (up v f) ?_)
      have e : l = (2, 0, l.2.2) := by rw [← k2, ← l4 k2]
      rw [e]; exact hv
    rw [if_neg k2, if_pos (by omega)]
    refine ⟨b3, b4, ?_⟩
    rw [p29]
    have k3 : l.1 = 3 := by omega
    have e : l = (3, l.2.1, []) := by rw [← k3, ← l5 (by omega)]
    by_cases x1 : l.2.1 = 1
    · rw [if_pos x1]
      refine e_truth (t := true) d0 (by omega) (by decide) (fun v f hv => p v (up v f) ?_)
      rw [e, x1]; exact hv
    · rw [if_neg x1]
      refine e_truth (t := false) d0 (by omega) (by decide) (fun v f hv => p v (up v f) ?_)
      have := l3 k3
      rw [e, show l.2.1 = 0 by omega]; exact hv
  clear ka4
  by_cases o15 : (ps.getD i pd0).1 = 15
  · rw [ev, st_15 (Or.inl o15)] at p
    rw [ka5 o15, if_neg (by decide), if_neg (by decide), if_neg (by decide), if_neg (by decide), if_neg (by decide)]
    refine e_in (fun z => by omega) (fun z => ?_)
    rw [if_pos rfl, if_pos (by decide)]
    exact e_error d0 (by omega) (fun v f hv => p v (up v f) hv)
  by_cases o16 : (ps.getD i pd0).1 = 16
  · rw [ev, st_16 o16] at p
    rw [ka6 o16, if_neg (by decide), if_neg (by decide), if_neg (by decide), if_pos rfl]
    obtain ⟨⟨m1, m2, m3, m4⟩, m5, -⟩ := h.2.2.1.2 i hi (Or.inl o16)
    unfold svE at p
    rw [if_pos ⟨o16, na⟩] at p
    refine e_spot h hi o16 (fun en => ?_) (fun r k en => ?_)
    · rw [if_neg (by decide)]
      rw [en] at p
      exact e_error d0 (by omega) (fun v f hv => p v (up v f) hv)
    · have sb := spP_b m2 en
      rw [en] at p
      have cv := m5 o16 na r k en
      rw [if_pos (by omega)]
      exact e_load d0 (by omega) (by omega) (by omega) cv.2 cv.1 (fun v f hv => p v (up v f) hv)
  by_cases o13 : (ps.getD i pd0).1 = 13
  · rw [ev, st_13 o13] at p
    rw [ka2 o13, if_neg (by decide), if_neg (by decide), if_neg (by decide), if_neg (by decide), if_pos rfl]
    have k0 : ((0 : Nat) : Int) < (ps.getD i pd0).2.1 := by omega
    have ai := agI_w W hi k0
    have c0 := chI W hi k0
    unfold chO at c0
    have e1 : q0 + i - 1 = q0 + ((agI ps i 0 : Nat) : Int) := by
      have e := ai.1
      rw [show (ps.getD i pd0).2.1.toNat - 1 - 0 = 0 by omega] at e
      have : wlk (spnL ps) 0 ((i : Int) - 1) = (i : Int) - 1 := rfl
      omega
    rw [w32e (x := q0 + i - 1) (by omega) (by omega), e1]
    have o0 := EvM_V h (i := agI ps i 0) (by omega)
    refine e_arg HI (by omega) h hi k0 (by omega) (by omega) d0 db (Int.le_refl d) (by omega) (fun v f hv H => ?_)
    generalize EvA E V ps (agI ps i 0) = l at *
    unfold negV at p
    refine ⟨d0, by omega, ?_⟩
    rw [H.1]
    by_cases c4 : l.1 = 4
    · rw [if_pos c4]; rw [if_pos c4] at p; exact p v f H
    rw [if_neg c4]; rw [if_neg c4] at p
    have u1 : ∀ y, FrS (fun x => x = d) v y → FrT (fun x => d ≤ x) u y := fun y q => FrS_tr f (FrS_mo (FrT_of q) (fun e he => by rw [he]; exact Int.le_refl d))
    refine e_wantsN d0 (by omega) o0 H (fun cl y q hy => ?_) (fun cl y q hy => ?_)
    · rw [if_neg (by decide)]
      rw [if_pos cl] at p
      refine ⟨d0, by omega, ?_⟩
      have xl := VOk_x o0
      rw [show mG y 67 d = l.2.1 from hy.2.2 (Or.inl rfl), w64e (by omega) (by omega)]
      refine e_number d0 (by omega) (fun y2 q2 hy2 => p y2 (u1 y2 (FrS_tr q q2)) ?_)
      unfold nuL at hy2
      rw [if_neg (by omega)] at hy2; exact hy2
    · rw [if_pos rfl]
      rw [if_neg cl] at p
      exact p y (u1 y q) hy
  by_cases o12 : (ps.getD i pd0).1 ≤ 12
  · rw [ka1 o12, if_neg (by omega), if_neg (by omega), if_neg (by omega), if_neg (by omega), if_neg (by omega)]
    refine e_in (fun z => ?_) (fun z => by omega)
    rw [if_neg (by decide)]
    exact e_two (n := n + 1) HI (by omega) h hi o12 d0 db p
  · rw [ka3 (by omega), if_neg (by omega), if_neg (by omega), if_neg (by omega), if_neg (by omega), if_neg (by omega)]
    refine e_in (fun z => by omega) (fun z => ?_)
    rw [if_pos rfl, if_neg (by omega)]
    exact e_call HI hN h hi (by omega) d0 db p
theorem e_workAll : ∀ (m i : Nat), i < m → i < ps.length → WkR s E V q0 ps i (3 * i + 3)
  | 0, _, h, _ => absurd h (Nat.not_lt_zero _)
  | m + 1, i, him, hi => by
    intro n u d P hn h h17 na d0 db p
    obtain ⟨k, rfl⟩ : ∃ k, n = k + 3 := ⟨n - 3, by omega⟩
    refine e_workS (N := 3 * i) (fun j hj => ?_) (by omega) h hi h17 na d0 db p
    intro n2 u2 d2 P2 hn2
    exact e_workAll m j (by omega) (by omega) n2 u2 d2 P2 (by omega)
end Wk4
