/-! ===== the reference: the values of a sheet ===== -/
def wFo : WR := [(66, none), (67, none), (68, none), (69, none), (70, none), (0, some 71), (0, some 72), (0, some 73), (0, some 74), (0, some 75), (0, some 76), (0, some 77), (0, some 78), (0, some 79), (0, some 80), (0, some 81), (60, none), (61, none), (62, none), (63, none)]
def plC (c : Cont) : Lit := match c with
  | none => (0, 0, [])
  | some (_, l, _) => l
/-- values by the cell's number -/
def fo (g : Int → Lit) : Int → Int → Lit := fun r c => g (10 * r + c)
theorem fo_k (g : Int → Lit) (k : Int) : fo g (k / 10) (k % 10) = g k := by
  unfold fo; rw [show 10 * (k / 10) + k % 10 = k by omega]
def isF (h : Sh) (k : Int) : Prop := inS h k ∧ ∃ l ps, ctC h k = some (5, l, ps)
theorem VOk_fin {l : Lit} (h : VOk l) : VOk (finL l) := by
  unfold finL
  by_cases c : l.1 = 0
  · rw [if_pos c]; exact VOk_n (by decide) (by decide)
  · rw [if_neg c]; exact h
theorem sto_c {u v w : Mu} {x : Int} {l : Lit} {L : WR} (hv : VOk l) (f : FrM L u v) (hd : wDis L [(60, none), (61, none), (62, none), (63, none)] = true) (hL : ∀ t ∈ L, t ∈ wFo) (g : FrW wCe (fun y => y = x) v w) (hw : CeM w x l) : FrW wFo (fun y => y = x) u w ∧ CvM w x l :=
  ⟨FrW_tr (FrW_mo (FrW_of (C := fun y => y = x) f hd) hL (fun _ z => z)) (FrW_mo g (by decide) (fun _ z => z)), hw, hv⟩
section Vx3
variable {u : Mu} {s n : Int} {F : Int → Sh} {G : Int → Int → Int → Lit} {h : Sh}
theorem e_formula {k : Int} {l : Lit} {ps : List Prt} {f : Int → Int → Lit} {P : Mu → Prop} (X : VxM u s n F G h) (hk : inS h k) (e : ctC h k = some (5, l, ps)) (hf : ∀ j, LdP h ps j → CvM u (320 * s + j) (f (j / 10) (j % 10))) (p : ∀ v, FrW wFo (fun y => y = 320 * s + k) u v → CvM v (320 * s + k) (finL (EvA (eS F h) (vS G f) ps (ps.length - 1))) → P v) : F_X12_formulaValue s (mI u 5 (320 * s + k)) (320 * s + k) u P := by
  obtain ⟨N1, N2, N3, N4, N5⟩ := VxM_N X hk e
  have E := VxM_E X hk e hf
  have hk1 := hk.1
  have hs := X.1
  have hV := EvM_V E (i := ps.length - 1) (by omega)
  unfold F_X12_formulaValue F_X12_wholeOf
  generalize hq : mI u 5 (320 * s + k) = q at *
  rw [w32e (x := q - 1) (by omega) (by omega), N2, w32e (x := q - 1 + (ps.length : Int)) (by omega) (by omega), w32e (x := q - 1 + (ps.length : Int) - 1) (by omega) (by omega)]
  refine ⟨by omega, by omega, 3 * (ps.length - 1) + 3, by omega, ?_⟩
  have eq : q - 1 + (ps.length : Int) - 1 = (q - 1) + ((ps.length - 1 : Nat) : Int) := by omega
  rw [eq]
  have bg : bgI ps (ps.length - 1) = 0 := by
    unfold bgI; rw [N5.1.2.1]; omega
  refine e_workAll ps.length (ps.length - 1) (by omega) (by omega) _ u 0 _ (Nat.le_refl _) E N5.1.2.2 (aln_last N4.1) (by omega) (by rw [bg]; omega) (fun v fv hv => ?_)
  have fin : ∀ w, FrM wEv u w → HdM w 0 (finL (EvA (eS F h) (vS G f) ps (ps.length - 1))) → F_X12_formulaValue_26 (320 * s + k) w P := fun w fw hw => by
    unfold F_X12_formulaValue_26
    refine e_store (by omega) (by omega) (by omega) (by omega) (VOk_b (VOk_fin hV)).1 hw (fun w2 f2 h2 => ?_)
    obtain ⟨a, b⟩ := sto_c (VOk_fin hV) fw (by decide) (by decide) f2 h2
    exact p w2 a b
  rw [hv.1]
  by_cases c : (EvA (eS F h) (vS G f) ps (ps.length - 1)).1 = 0
  · rw [if_pos c]
    refine e_number (by omega) (by omega) (fun w fw hw => fin w (FrM_tr fv.1 (FrM_up fw.1 (by decide))) ?_)
    unfold finL
    rw [if_pos c]
    exact hw
  · rw [if_neg c]
    refine fin v fv.1 ?_
    unfold finL
    rw [if_neg c]
    exact hv
theorem e_plain {k : Int} {P : Mu → Prop} (X : VxM u s n F G h) (hk : inS h k) (hn : ¬ isF h k) (p : ∀ v, FrW wFo (fun y => y = 320 * s + k) u v → CvM v (320 * s + k) (plC (ctC h k)) → P v) : F_X12_plainValue (mI u 5 (320 * s + k)) (320 * s + k) u P := by
  have hc := VxM_ct X hk
  have hk1 := hk.1
  have hs := X.1
  have B := X.2.1
  unfold F_X12_plainValue
  have fin : ∀ w l, VOk l → plC (ctC h k) = l → FrM wRg u w → HdM w 0 l → F_X12_plainValue_84 (320 * s + k) w P := fun w l hV el fw hw => by
    unfold F_X12_plainValue_84
    refine e_store (by omega) (by omega) (by omega) (by omega) (VOk_b hV).1 hw (fun w2 f2 h2 => ?_)
    obtain ⟨a, b⟩ := sto_c hV fw (by decide) (by decide) f2 h2
    exact p w2 a (by rw [el]; exact b)
  match e : ctC h k with
  | none =>
    rw [e] at hc
    have hc : mI u 5 (320 * s + k) = 0 := hc
    rw [hc, if_pos rfl]
    intro v1 e1 v2 e2
    refine fin v2 (0, 0, []) (Or.inl ⟨rfl, rfl, rfl⟩) (by rw [e]; rfl) ?_ ?_
    · subst e2; subst e1; exact FrM_uG (FrM_uI FrM_rf (wHas_a (by decide))) (wHas_a (by decide))
    · subst e2; subst e1
      refine ⟨?_, fun z => absurd z (by show (0 : Int) ≠ 2; decide), fun z => absurd z (by show ¬ ((0 : Int) = 1 ∨ (0 : Int) = 3 ∨ (0 : Int) = 4); decide)⟩
      rw [mI_uG, mI_uI, if_pos ⟨rfl, rfl⟩]
  | some (kd, l, ps) =>
    rw [e] at hc
    unfold ContM at hc
    simp only at hc
    by_cases c5 : kd = 5
    · exact absurd ⟨hk, l, ps, by rw [e, c5]⟩ hn
    rw [if_neg c5] at hc
    obtain ⟨⟨c1, c2⟩, -, c3, c4, c6, c7, c8, c9⟩ := hc
    obtain ⟨c9a, c9b, c9c⟩ := c9
    have hV := VOk_L c4
    obtain ⟨l1, l2, l3⟩ := l
    generalize mI u 5 (320 * s + k) = q at *
    have c3 : l1 = kd := c3
    have hb := VOk_b hV
    have cw := c4
    obtain ⟨w1, w2, w3, w4, w5, w6, w7⟩ := cw
    have hB := B.2.1
    have hB1 := B.1
    have w4 : l1 = 2 → l2 = 0 := w4
    have w5 : l1 ≠ 2 → l3 = [] := w5
    have w6 : l3.length ≤ 24 := w6
    have c8 : mI u 23 (q - 100000) = (l3.length : Int) := c8
    have c9b : mI u 22 (q - 100000) + (l3.length : Int) ≤ mI u 0 19 := c9b
    have c9c : ∀ i : Nat, i < l3.length → mI u 18 (mI u 22 (q - 100000) + i) = l3.getD i 0 := c9c
    rw [if_neg (by omega), w32e (x := q - 100000) (by omega) (by omega), c6]
    refine ⟨by omega, by omega, ?_⟩
    by_cases ck : kd = 2
    · rw [if_pos ck]
      refine ⟨by omega, by omega, by omega, by omega, ?_⟩
      refine e_text (bs := l3) (by omega) (by omega) (by decide) (by decide) c8 w6 c9a ?_ (by decide) c9c (fun v f hv => ?_)
      · rw [c8]; show _ ≤ (82400 : Int); omega
      · refine fin v (2, 0, l3) ?_ ?_ f.1 hv
        · rw [c3, ck, w4 (by omega)] at hV; exact hV
        · rw [e]; show (l1, l2, l3) = (2, 0, l3); rw [c3, ck, w4 (by omega)]
    · rw [if_neg ck]
      intro v1 e1
      refine ⟨by omega, by omega, fun v2 e2 => ?_⟩
      refine fin v2 (l1, l2, l3) hV (by rw [e]; rfl) ?_ ?_
      · subst e2; subst e1; exact FrM_uG (FrM_uI FrM_rf (wHas_a (by decide))) (wHas_a (by decide))
      · subst e2; subst e1
        rw [w5 (by omega)]
        refine HdM_n ?_ (by omega) ?_
        · rw [mI_uG, mI_uI, if_pos ⟨rfl, rfl⟩, c3]
        · rw [mG_uG, if_pos ⟨rfl, rfl⟩, mG_uI]; exact c7
theorem e_b44 {x : Int} {Q : (Int × Mu) ⊕ Mu → Prop} (X : VxM u s n F G h) (x0 : 0 ≤ x) (x1 : x < 320) (hF : ∀ l ps, inS h x → ctC h x = some (5, l, ps) → ∀ v, FrW wVa (fun y => y = 320 * s + x) u v → (∀ i, mG v 85 i = mG u 85 i) → (∀ i, mI v 84 i = if i = x then 0 else mI u 84 i) → (∀ k' j', 0 ≤ j' → j' < 320 → (BtR (mG v 82) k' j' ↔ (BtR (mG u 82) k' j' ∨ (k' = x ∧ LdP h ps j')))) → Q (.inl (x + 1, v))) (hP : ¬ isF h x → ∀ v, FrW wVa (fun y => y = 320 * s + x) u v → (∀ i, mG v 82 i = mG u 82 i) → (∀ i, mI v 84 i = if i = x then 1 else mI u 84 i) → (∀ j, 0 ≤ j → j < 320 → (BtW (mG v 85) j ↔ (BtW (mG u 85) j ∨ j = x))) → (inS h x → CvM v (320 * s + x) (plC (ctC h x))) → Q (.inl (x + 1, v))) : L_X12_valuesOf_44 s x u Q := by
  have hs := X.1
  obtain ⟨m1, m2⟩ := X.2.2.1.1
  have k121 : ∀ s0 : Int, (s0 ≠ 0 → inS h x) → (s0 = 0 → ¬ inS h x) → ¬ isF h x → F_X12_valuesOf_121 s x s0 u Q := fun s0 a1 a2 hn => by
    unfold F_X12_valuesOf_121
    refine e_through x0 x1 (fun v f h84 h85 => ?_)
    have f2 : FrW wVa (fun y => y = 320 * s + x) u v := FrW_mo (FrW_of (C := fun y => y = 320 * s + x) f (by decide)) (by decide) (fun _ z => z)
    have f3 : FrV s u v := FrW_mo f2 (fun _ z => z) (fun y z => by omega)
    have e82 : ∀ i, mG v 82 i = mG u 82 i := fun i => gE f (R := [(82, none)]) (by decide) (wHas_a (by decide))
    unfold F_X12_valuesOf_153
    by_cases c : s0 = 0
    · rw [if_pos c, w32e (x := x + 1) (by omega) (by omega)]
      exact hP hn v f2 e82 h84 h85 (fun z => absurd z (a2 c))
    · rw [if_neg c, w32e (x := 320 * s) (by omega) (by omega), w32e (x := 320 * s + x) (by omega) (by omega), w32e (x := x + 1) (by omega) (by omega)]
      refine ⟨by omega, by omega, ?_⟩
      refine e_plain (VxM_f f3 X) (a1 c) hn (fun w g hw => ?_)
      refine hP hn w (FrW_tr f2 (FrW_mo g (by decide) (fun _ z => z))) (fun i => (gE g.1 (R := [(82, none)]) (by decide) (wHas_a (by decide))).trans (e82 i)) (fun i => (mE g.1 (R := [(84, none)]) (by decide) (wHas_a (by decide))).trans (h84 i)) (fun j j0 j1 => ?_) (fun _ => hw)
      rw [show mG w 85 = mG v 85 from funext (fun i => gE g.1 (R := [(85, none)]) (by decide) (wHas_a (by decide)))]
      exact h85 j j0 j1
  unfold L_X12_valuesOf_44
  rw [if_neg (by omega), tdivE x0, tmodE x0, w32e (x := x / 10) (by omega) (by omega), w32e (x := x % 10) (by omega) (by omega), m1, m2]
  refine ⟨by omega, by omega, ?_⟩
  by_cases c1 : h.1.1 ≤ x / 10
  · rw [if_pos c1]
    unfold F_X12_valuesOf_81 F_X12_valuesOf_82
    rw [if_pos rfl]
    have ni : ¬ inS h x := fun z => by have := z.2.1; omega
    exact k121 0 (fun z => absurd rfl z) (fun _ => ni) (fun z => ni z.1)
  rw [if_neg c1]
  refine ⟨by omega, by omega, ?_⟩
  by_cases c2 : h.1.2 ≤ x % 10
  · rw [if_pos c2]
    unfold F_X12_valuesOf_81 F_X12_valuesOf_82
    rw [if_pos rfl]
    have ni : ¬ inS h x := fun z => by have := z.2.2; omega
    exact k121 0 (fun z => absurd rfl z) (fun _ => ni) (fun z => ni z.1)
  rw [if_neg c2]
  have hi : inS h x := ⟨⟨x0, x1⟩, by omega, by omega⟩
  unfold F_X12_valuesOf_82
  rw [if_neg (by decide), w32e (x := 320 * s) (by omega) (by omega), w32e (x := 320 * s + x) (by omega) (by omega)]
  refine ⟨by omega, by omega, i_isFormula ?_⟩
  have hc := VxM_ct X hi
  have hno : (∀ l ps, ctC h x ≠ some (5, l, ps)) → ¬ (0 < mI u 5 (320 * s + x) ∧ mI u 5 (320 * s + x) < 100000) := fun hn => by
    match e : ctC h x with
    | none =>
      rw [e] at hc
      have hc : mI u 5 (320 * s + x) = 0 := hc
      omega
    | some (kd, l, ps) =>
      rw [e] at hc
      unfold ContM at hc
      simp only at hc
      by_cases c5 : kd = 5
      · rw [c5] at e; exact absurd e (hn l ps)
      · rw [if_neg c5] at hc
        have := hc.1
        omega
  by_cases cf : ∃ l ps, ctC h x = some (5, l, ps)
  · obtain ⟨l, ps, e⟩ := cf
    obtain ⟨-, -, N3, N4, -⟩ := VxM_N X hi e
    rw [if_pos (show 0 < mI u 5 (320 * s + x) ∧ mI u 5 (320 * s + x) < 100000 by omega), if_neg (by decide)]
    refine ⟨x0, x1, fun v hv => ?_⟩
    have f1 : FrM [(84, none)] u v := by subst hv; exact FrM_uI FrM_rf (wHas_a (by decide))
    have f2 : FrW wVa (fun y => y = 320 * s + x) u v := FrW_mo (FrW_of (C := fun y => y = 320 * s + x) f1 (by decide)) (by decide) (fun _ z => z)
    have f3 : FrV s u v := FrW_mo f2 (fun _ z => z) (fun y z => by omega)
    refine e_leads (VxM_f f3 X) hi e (fun w g hw => ?_)
    unfold F_X12_valuesOf_153
    rw [w32e (x := x + 1) (by omega) (by omega)]
    refine hF l ps hi e w (FrW_tr f2 (FrW_mo (FrW_of (C := fun y => y = 320 * s + x) g (by decide)) (by decide) (fun _ z => z))) (fun i => ?_) (fun i => ?_) (fun k' j' j0 j1 => ?_)
    · rw [gE g (R := [(85, none)]) (by decide) (wHas_a (by decide))]
      exact gE f1 (R := [(85, none)]) (by decide) (wHas_a (by decide))
    · rw [mE g (R := [(84, none)]) (by decide) (wHas_a (by decide))]
      subst hv
      rw [mI_uI]
      by_cases ci : i = x
      · rw [if_pos ⟨rfl, ci⟩, if_pos ci]
      · rw [if_neg (fun z => ci z.2), if_neg ci]
    · rw [hw k' j' j0 j1, show mG v 82 = mG u 82 from funext (fun i => gE f1 (R := [(82, none)]) (by decide) (wHas_a (by decide)))]
  · have hn2 : ¬ isF h x := fun z => cf z.2
    rw [if_neg (hno (fun l ps z => cf ⟨l, ps, z⟩)), if_pos rfl]
    exact k121 1 (fun _ => hi) (fun z => absurd z (by decide)) hn2
end Vx3
