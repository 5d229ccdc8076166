/-! ===== the reference: rows of bits, what is stored ===== -/
theorem mkl_b : mkl.getD 83 0 = 16 ∧ mnl.getD 83 0 = 1600 := by decide
theorem e_bit {u : Mu} {k j : Int} {P : Int → Prop} (k0 : 0 ≤ k) (k1 : k < 320) (j0 : 0 ≤ j) (j1 : j < 320) (hy : BtR (mG u 83) k j → P 1) (hn : ¬ BtR (mG u 83) k j → P 0) : F_X12_bit 83 k j u P := by
  unfold BtR at hy hn
  unfold F_X12_bit F_X12_bit_27
  have q1 : Int.tdiv j 64 = j / 64 := tdivE j0
  have q2 : Int.tmod j 64 = j % 64 := tmodE j0
  rw [q1, q2, w32e (x := 5 * k) (by omega) (by omega), w32e (x := j / 64) (by omega) (by omega), w32e (x := j % 64) (by omega) (by omega), w32e (x := 5 * k + j / 64) (by omega) (by omega)]
  refine ⟨mkl_b.1, by omega, by rw [mkl_b.2]; omega, ?_⟩
  rw [tst_k (by omega) (by omega)]
  by_cases c : bitL (mG u 83 (5 * k + j / 64)) (j % 64).toNat = true
  · rw [if_pos c, if_pos rfl]; exact ⟨Or.inr rfl, hy c⟩
  · rw [if_neg c, if_neg (by decide)]; exact ⟨Or.inl rfl, hn c⟩
theorem e_lead {u : Mu} {k j : Int} {P : Mu → Prop} (k0 : 0 ≤ k) (k1 : k < 320) (j0 : 0 ≤ j) (j1 : j < 320) (h : ∀ v, FrM [(82, none)] u v → (∀ k' j', 0 ≤ j' → j' < 320 → (BtR (mG v 82) k' j' ↔ (BtR (mG u 82) k' j' ∨ (k' = k ∧ j' = j)))) → P v) : F_X12_lead k j u P := by
  unfold F_X12_lead
  have q1 : Int.tdiv j 64 = j / 64 := tdivE j0
  have q2 : Int.tmod j 64 = j % 64 := tmodE j0
  rw [q1, q2, w32e (x := 5 * k) (by omega) (by omega), w32e (x := j / 64) (by omega) (by omega), w32e (x := j % 64) (by omega) (by omega), w32e (x := 5 * k + j / 64) (by omega) (by omega)]
  refine ⟨by omega, by omega, fun v hv => ?_⟩
  subst hv
  refine h _ (FrM_uG FrM_rf (wHas_a (by decide))) (fun k' j' a c => BtR_set j0 j1 a c ?_ (fun i hi => ?_))
  · show mG (uG u 82 _ _) 82 _ = _; rw [mG_uG, if_pos ⟨rfl, rfl⟩]
  · show mG (uG u 82 _ _) 82 i = _; rw [mG_uG, if_neg (fun w => hi w.2)]
theorem e_through {u : Mu} {k : Int} {P : Mu → Prop} (k0 : 0 ≤ k) (k1 : k < 320) (h : ∀ v, FrM [(84, none), (85, none)] u v → (∀ i, mI v 84 i = if i = k then 1 else mI u 84 i) → (∀ j, 0 ≤ j → j < 320 → (BtW (mG v 85) j ↔ (BtW (mG u 85) j ∨ j = k))) → P v) : F_X12_goesThrough k u P := by
  unfold F_X12_goesThrough
  have q1 : Int.tdiv k 64 = k / 64 := tdivE k0
  have q2 : Int.tmod k 64 = k % 64 := tmodE k0
  refine ⟨k0, k1, fun v hv => ?_⟩
  subst hv
  rw [q1, q2, w32e (x := k / 64) (by omega) (by omega), w32e (x := k % 64) (by omega) (by omega)]
  refine ⟨by omega, by omega, fun v hv => ?_⟩
  subst hv
  refine h _ (FrM_uG (FrM_uI FrM_rf (wHas_a (by decide))) (wHas_a (by decide))) (fun i => ?_) (fun j a c => BtW_set k0 k1 a c ?_ (fun i hi => ?_))
  · rw [mI_uG, mI_uI]
    by_cases c : i = k
    · rw [if_pos ⟨rfl, c⟩, if_pos c]
    · rw [if_neg (fun w => c w.2), if_neg c]
  · show mG (uG (uI u 84 k 1) 85 _ _) 85 _ = _; rw [mG_uG, if_pos ⟨rfl, rfl⟩]; rfl
  · show mG (uG (uI u 84 k 1) 85 _ _) 85 i = _; rw [mG_uG, if_neg (fun w => hi w.2)]; rfl
theorem e_ready {u : Mu} {k : Int} {P : Int → Prop} (k0 : 0 ≤ k) (k1 : k < 320) (hy : (∀ j, 0 ≤ j → j < 320 → BtR (mG u 82) k j → BtW (mG u 85) j) → P 1) (hn : (∃ j, (0 ≤ j ∧ j < 320) ∧ BtR (mG u 82) k j ∧ ¬ BtW (mG u 85) j) → P 0) : F_X12_isReady k u P := by
  unfold F_X12_isReady F_X12_isReady_2
  refine lp_I (fun w => (0 ≤ w ∧ w ≤ 5) ∧ ∀ j, 0 ≤ j → j < 320 → j / 64 < w → BtR (mG u 82) k j → BtW (mG u 85) j) (fun w => (5 - w).toNat) ?_ _ ⟨⟨by omega, by omega⟩, fun j _ _ hj => by omega⟩
  rintro G w ⟨⟨w0, w1⟩, e⟩ ih
  unfold L_X12_isReady_2
  by_cases c : 5 ≤ w
  · rw [if_pos c]
    exact hy (fun j a b => e j a b (by omega))
  rw [if_neg c, w32e (x := 5 * k) (by omega) (by omega), w32e (x := 5 * k + w) (by omega) (by omega), w32e (x := w + 1) (by omega) (by omega)]
  refine ⟨by omega, by omega, by omega, by omega, ?_⟩
  by_cases ca : lAnd (mG u 82 (5 * k + w)) (lXor (mG u 85 w) (-1)) = 0
  · rw [if_pos ca]
    rw [andn_0] at ca
    refine ih _ ⟨⟨by omega, by omega⟩, fun j a b hj hb => ?_⟩ (by omega)
    by_cases cj : j / 64 < w
    · exact e j a b cj hb
    · have : j / 64 = w := by omega
      unfold BtR at hb
      unfold BtW
      rw [this] at hb ⊢
      exact ca _ (by omega) hb
  · rw [if_neg ca]
    refine hn ?_
    rw [andn_0] at ca
    by_cases ex : ∃ i : Nat, i < 64 ∧ bitL (mG u 82 (5 * k + w)) i = true ∧ ¬ bitL (mG u 85 w) i = true
    · obtain ⟨i, i1, i2, i3⟩ := ex
      refine ⟨64 * w + i, ⟨by omega, by omega⟩, ?_, ?_⟩
      · unfold BtR; rw [show (64 * w + (i : Int)) / 64 = w by omega, show ((64 * w + (i : Int)) % 64).toNat = i by omega]; exact i2
      · unfold BtW; rw [show (64 * w + (i : Int)) / 64 = w by omega, show ((64 * w + (i : Int)) % 64).toNat = i by omega]; exact i3
    · exact absurd (fun i hi h1 => Classical.byContradiction (fun h2 => ex ⟨i, hi, h1, h2⟩)) ca
/-- only the cells C and the rest of L have changed -/
def FrW (L : WR) (C : Int → Prop) (u v : Mu) : Prop := FrM L u v ∧ ∀ x, ¬ C x → mI v 60 x = mI u 60 x ∧ mG v 61 x = mG u 61 x ∧ mI v 62 x = mI u 62 x ∧ ∀ i, 24 * x ≤ i → i < 24 * x + 24 → mI v 63 i = mI u 63 i
theorem FrW_rf {L : WR} {C : Int → Prop} {u : Mu} : FrW L C u u := ⟨FrM_rf, fun _ _ => ⟨rfl, rfl, rfl, fun _ _ _ => rfl⟩⟩
theorem FrW_tr {L : WR} {C : Int → Prop} {u v w : Mu} (f : FrW L C u v) (g : FrW L C v w) : FrW L C u w := ⟨FrM_tr f.1 g.1, fun e he => ⟨(g.2 e he).1.trans (f.2 e he).1, (g.2 e he).2.1.trans (f.2 e he).2.1, (g.2 e he).2.2.1.trans (f.2 e he).2.2.1, fun i h0 h1 => ((g.2 e he).2.2.2 i h0 h1).trans ((f.2 e he).2.2.2 i h0 h1)⟩⟩
theorem FrW_mo {L R : WR} {C C' : Int → Prop} {u v : Mu} (f : FrW L C u v) (hL : ∀ t ∈ L, t ∈ R) (h : ∀ e, C e → C' e) : FrW R C' u v := ⟨FrM_up f.1 hL, fun e he => f.2 e (fun w => he (h e w))⟩
theorem FrW_of {L : WR} {C : Int → Prop} {u v : Mu} (f : FrM L u v) (hd : wDis L [(60, none), (61, none), (62, none), (63, none)] = true) : FrW L C u v := ⟨f, fun e _ => ⟨mE f hd (wHas_a (by decide)), gE f hd (wHas_a (by decide)), mE f hd (wHas_a (by decide)), fun i _ _ => mE f hd (wHas_a (by decide))⟩⟩
theorem CeM_w {L : WR} {C : Int → Prop} {u v : Mu} {x : Int} {l : Lit} (f : FrW L C u v) (hx : ¬ C x) (h24 : l.2.2.length ≤ 24) (h : CeM u x l) : CeM v x l := by
  obtain ⟨f1, f2, f3, f4⟩ := f.2 x hx
  obtain ⟨h1, h2, h3⟩ := h
  exact ⟨f1.trans h1, fun c => ⟨f3.trans (h2 c).1, fun j hj => (f4 _ (by omega) (by omega)).trans ((h2 c).2 j hj)⟩, fun c => f2.trans (h3 c)⟩
theorem CvM_w {L : WR} {C : Int → Prop} {u v : Mu} {x : Int} {l : Lit} (f : FrW L C u v) (hx : ¬ C x) (h : CvM u x l) : CvM v x l := ⟨CeM_w f hx (VOk_b h.2).1 h.1, h.2⟩
def wCe : WR := [(60, none), (61, none), (62, none), (63, none)]
theorem e_store {u : Mu} {d x : Int} {l : Lit} {P : Mu → Prop} (d0 : 0 ≤ d) (d1 : d < 200) (x0 : 0 ≤ x) (x1 : x < 13120) (hl : l.2.2.length ≤ 24) (H : HdM u d l) (h : ∀ v, FrW wCe (fun y => y = x) u v → CeM v x l → P v) : F_X12_store d x u P := by
  obtain ⟨h1, h2, h3⟩ := H
  have k49 : ∀ (s2 : Int) (y : Mu), (l.1 = 2 → s2 = (l.2.2.length : Int)) → FrW wCe (fun y => y = x) u y → mI y 60 x = l.1 → (l.1 = 1 ∨ l.1 = 3 ∨ l.1 = 4 → mG y 61 x = l.2.1) → F_X12_store_49 d x x s2 y P := by
    intro s2 y es f e60 e61
    unfold F_X12_store_49
    refine ⟨x0, x1, fun v hv => ?_⟩
    subst hv
    have f2 : FrW wCe (fun y => y = x) u (uI y 62 x s2) := by
      refine ⟨FrM_uI f.1 (wHas_a (by decide)), fun z hz => ?_⟩
      obtain ⟨g1, g2, g3, g4⟩ := f.2 z hz
      have hz : ¬ z = x := hz
      exact ⟨by rw [mI_uI, if_neg (by omega)]; exact g1, g2, by rw [mI_uI, if_neg (by omega)]; exact g3, fun i a b => by rw [mI_uI, if_neg (by omega)]; exact g4 i a b⟩
    unfold F_X12_store_52
    refine lp_I (fun q => (0 ≤ q.1 ∧ q.1 ≤ 24) ∧ FrW wCe (fun y => y = x) u q.2 ∧ mI q.2 60 x = l.1 ∧ (l.1 = 1 ∨ l.1 = 3 ∨ l.1 = 4 → mG q.2 61 x = l.2.1) ∧ mI q.2 62 x = s2 ∧ ∀ j : Nat, (j : Int) < q.1 → mI q.2 63 (24 * x + j) = mI u 69 (24 * d + j)) (fun q => (24 - q.1).toNat) ?_ _ ⟨⟨by show (0 : Int) ≤ 0; omega, by show (0 : Int) ≤ 24; omega⟩, f2, by show mI (uI y 62 x s2) 60 x = _; rw [mI_uI, if_neg (by omega)]; exact e60, e61, by show mI (uI y 62 x s2) 62 x = _; rw [mI_uI, if_pos ⟨rfl, rfl⟩], fun j hj => by exfalso; have : (j : Int) < 0 := hj; omega⟩
    rintro G ⟨k, w⟩ ⟨⟨k0, k1⟩, g, a1, a2, a3, a4⟩ ih
    simp only at k0 k1 g a1 a2 a3 a4
    show L_X12_store_52 d x k w _
    unfold L_X12_store_52
    by_cases c : 24 ≤ k
    · rw [if_pos c]
      refine h w g ⟨a1, fun c2 => ⟨a3.trans (es c2), fun j hj => ?_⟩, a2⟩
      rw [a4 j (by omega)]; exact (h2 c2).2 j hj
    · rw [if_neg c, w32e (x := 24 * d) (by omega) (by omega), w32e (x := 24 * d + k) (by omega) (by omega), w32e (x := 24 * x) (by omega) (by omega), w32e (x := 24 * x + k) (by omega) (by omega), w32e (x := k + 1) (by omega) (by omega)]
      refine ⟨by omega, by omega, by omega, by omega, fun v hv => ?_⟩
      subst hv
      refine ih _ ⟨⟨by show 0 ≤ k + 1; omega, by show k + 1 ≤ 24; omega⟩, ?_, ?_, a2, ?_, fun j hj => ?_⟩ (by show (24 - (k + 1)).toNat < (24 - k).toNat; omega)
      · refine ⟨FrM_uI g.1 (wHas_a (by decide)), fun z hz => ?_⟩
        obtain ⟨g1, g2, g3, g4⟩ := g.2 z hz
        have hz : ¬ z = x := hz
        exact ⟨by rw [mI_uI, if_neg (by omega)]; exact g1, g2, by rw [mI_uI, if_neg (by omega)]; exact g3, fun i a b => by rw [mI_uI, if_neg (by omega)]; exact g4 i a b⟩
      · show mI (uI w 63 _ _) 60 x = _; rw [mI_uI, if_neg (by omega)]; exact a1
      · show mI (uI w 63 _ _) 62 x = _; rw [mI_uI, if_neg (by omega)]; exact a3
      · have hj : (j : Int) < k + 1 := hj
        show mI (uI w 63 (24 * x + k) (mI w 69 (24 * d + k))) 63 (24 * x + j) = _
        by_cases cj : (j : Int) = k
        · have e69 : mI w 69 (24 * d + k) = mI u 69 (24 * d + k) := mE g.1 (R := [(69, none)]) (by decide) (wHas_a (by decide))
          rw [mI_uI, if_pos ⟨rfl, by omega⟩, e69, cj]
        · rw [mI_uI, if_neg (by omega)]; exact a4 j (by omega)
  unfold F_X12_store
  refine ⟨d0, d1, x0, x1, fun v hv => ?_⟩
  subst hv
  refine ⟨d0, d1, x0, x1, fun v hv => ?_⟩
  subst hv
  have f1 : FrW wCe (fun y => y = x) u (uG (uI u 60 x (mI u 66 d)) 61 x (mG (uI u 60 x (mI u 66 d)) 67 d)) := by
    refine ⟨FrM_uG (FrM_uI FrM_rf (wHas_a (by decide))) (wHas_a (by decide)), fun z hz => ?_⟩
    have hz : ¬ z = x := hz
    exact ⟨by rw [mI_uG, mI_uI, if_neg (by omega)], by rw [mG_uG, if_neg (by omega), mG_uI], by rw [mI_uG, mI_uI, if_neg (by omega)], fun i a b => by rw [mI_uG, mI_uI, if_neg (by omega)]⟩
  have e60 : mI (uG (uI u 60 x (mI u 66 d)) 61 x (mG (uI u 60 x (mI u 66 d)) 67 d)) 60 x = l.1 := by rw [mI_uG, mI_uI, if_pos ⟨rfl, rfl⟩]; exact h1
  have e61 : l.1 = 1 ∨ l.1 = 3 ∨ l.1 = 4 → mG (uG (uI u 60 x (mI u 66 d)) 61 x (mG (uI u 60 x (mI u 66 d)) 67 d)) 61 x = l.2.1 := fun c => by rw [mG_uG, if_pos ⟨rfl, rfl⟩, mG_uI]; exact h3 c
  have e66 : mI (uG (uI u 60 x (mI u 66 d)) 61 x (mG (uI u 60 x (mI u 66 d)) 67 d)) 66 d = l.1 := by rw [mI_uG, mI_uI, if_neg (by omega)]; exact h1
  have e68 : mI (uG (uI u 60 x (mI u 66 d)) 61 x (mG (uI u 60 x (mI u 66 d)) 67 d)) 68 d = mI u 68 d := by rw [mI_uG, mI_uI, if_neg (by omega)]
  rw [e66, e68]
  by_cases c : l.1 = 2
  · rw [if_pos c]
    exact ⟨d0, d1, k49 _ _ (fun _ => (h2 c).1) f1 e60 e61⟩
  · rw [if_neg c]
    exact k49 _ _ (fun w => absurd w c) f1 e60 e61
