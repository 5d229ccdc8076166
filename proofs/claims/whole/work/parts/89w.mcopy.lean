/-! ===== copy: the reference's call ===== -/
theorem RM_cf {u v : Mu} {N m : Int} {T : SS} (hB : Bd T) (R : RM u N T) (f : FrM wCf u v) (g : Grw u v) (e : mI v 0 25 = m) : RM v N (setP T m) := by
  obtain ⟨⟨n1, n2⟩, ht, hl, hb, hk, hq⟩ := R
  have e19 := mE f (R := [(0, some 19)]) (by decide) (k := 0) (i := 19) (wHas_i (by decide))
  have e24 := mE f (R := [(0, some 24)]) (by decide) (k := 0) (i := 24) (wHas_i (by decide))
  refine ⟨by rw [e19, e24]; exact ⟨n1, n2⟩, RMt_fr f (by decide) ht, RMl_fr f (by decide) (fun k a c => (hB.2.1.2 k a c).1) g (fun k _ _ => SlM_fr f (by decide)) hl, ?_, RMk_fr f (by decide) (by decide) hB.2.2.2.1.1 hB.2.2.2.1.2.2.1 hB.2.2.2.1.2.2.2 g hk, RMq_fr f (by decide) g hq⟩
  obtain ⟨g1, g2, g3, g4, g5, g6, g7⟩ := hb
  have m0 : ∀ i, wHas [(0, some 12), (0, some 13), (0, some 14), (0, some 6), (0, some 7)] 0 i → mI v 0 i = mI u 0 i := fun i hi => mE f (R := [(0, some 12), (0, some 13), (0, some 14), (0, some 6), (0, some 7)]) (by decide) hi
  refine ⟨fun k a c => (mE f (R := [(11, none)]) (by decide) (wHas_a (by decide))).trans (g1 k a c), (m0 12 (wHas_i (by decide))).trans g2, (m0 13 (wHas_i (by decide))).trans g3, e, (m0 14 (wHas_i (by decide))).trans g5, (m0 6 (wHas_i (by decide))).trans g6, (m0 7 (wHas_i (by decide))).trans g7⟩
theorem ContM_f {u : Mu} {q : Int} {c : Cont} (B : CoB u) (h : ContM u q c) : (∃ l ps, c = some (5, l, ps) ∧ 0 < q ∧ q < 100000 ∧ mI u 38 (q - 1) = (ps.length : Int)) ∨ ((∀ S dr dc, shfC S dr dc c = c) ∧ pcN c = 0 ∧ ¬ (0 < q ∧ q < 100000)) := by
  match c, h with
  | none, h =>
    have h' : q = 0 := h
    exact Or.inr ⟨fun _ _ _ => rfl, rfl, by omega⟩
  | some (k, l, ps), h =>
    unfold ContM at h
    simp only at h
    by_cases e : k = 5
    · rw [if_pos e] at h
      subst e
      have := B.2.2
      have h1 := h.1
      have h3 := h.2.2.1.1
      exact Or.inl ⟨l, ps, rfl, by omega, by omega, h.2.1⟩
    · rw [if_neg e] at h
      have h1 := h.1
      refine Or.inr ⟨fun S dr dc => ?_, ?_, by omega⟩
      · unfold shfC; dsimp only; rw [if_neg e]
      · show ps.length = 0
        rw [h.2.1]; rfl
def wCy : WR := (0, some 25) :: ((26, none) :: (27, none) :: (28, none) :: (29, none) :: (30, none) :: (31, none) :: (32, none) :: (33, none) :: (34, none) :: (35, none) :: (36, none) :: (37, none) :: (38, none) :: wUm)
theorem i_least {a b : Int} {P : Int → Prop} (h : P (min a b)) : F_X12_least a b P := by
  unfold F_X12_least F_X12_least_10
  by_cases e : b ≤ a
  · rw [if_pos e]; rw [show min a b = b by omega] at h; exact h
  · rw [if_neg e]; rw [show min a b = a by omega] at h; exact h
theorem Bd_setP {S : SS} {m : Int} (hB : Bd S) : Bd (setP S m) := hB
theorem setP_step (S : SS) (m : Int) : pStep0 (setP S m) = setP (pStep0 S) m := by
  unfold pStep0 setP; dsimp only
theorem ShM_CoW {u : Mu} {s : Int} {h : Sh} (m : ShM u s h) : ∀ a d, 0 ≤ a → a < h.1.1 → 0 ≤ d → d < h.1.2 → WfC (h.2.2.2 a d) := fun a d a0 a1 d0 d1 => by
  have q := m.2.2.2 a d a0 a1 d0 d1
  intro k l ps e
  rw [e] at q
  unfold ContM at q
  simp only at q
  by_cases c : k = 5
  · rw [if_pos c] at q
    refine ⟨fun _ => ⟨q.2.2.2.1, q.2.2.1.1⟩, fun w => absurd c w, fun p hp => ?_⟩
    obtain ⟨i, hi, e⟩ := List.getElem_of_mem hp
    have := (q.2.2.2.2 i hi).1.2.2.2.2.2.2.2.2.2
    rw [List.getD_eq_getElem?_getD, List.getElem?_eq_getElem hi] at this
    rw [← e]; exact this
  · rw [if_neg c] at q
    exact ⟨fun w => absurd w c, fun _ => q.2.1, fun p hp => by rw [q.2.1] at hp; cases hp⟩
theorem i_copy {u : Mu} {N : Int} {S : SS} {r c r2 c2 ar ac : Int} {P : Int → Mu → Prop} (hB : Bd S) (R : RM u N S) (hN : N ≤ 4000) (pm : 0 ≤ S.2.2.1.2.2.2.1 ∧ S.2.2.1.2.2.2.1 ≤ 60000) (wf : ∀ a d, 0 ≤ a → a < S.2.2.2.1.1.1.1 → 0 ≤ d → d < S.2.2.2.1.1.1.2 → VrC S.2.1.1 (S.2.2.2.1.1.2.2.2 a d)) (his : ∀ v, isShP v S → IdS (shOf v S)) (h : ∀ v, RM v N (pCopy r c r2 c2 ar ac S).2.2 → FrM wCy u v → (mI v 0 0 = ((pCopy r c r2 c2 ar ac S).1 : Int) ∧ Q65 u v S (pCopy r c r2 c2 ar ac S).2.2) → P (pCopy r c r2 c2 ar ac S).2.1 v) : F_X12_copy r c r2 c2 ar ac u P := by
  unfold F_X12_copy F_X12_copy_41 F_X12_copy_58
  rintro _ rfl
  have R' := RM_thr (x := 0) hB R
  have f : FrM wCy u (uI u 0 0 0) := FrM_uI FrM_rf (wHas_i (by decide))
  have z0 : mI (uI u 0 0 0) 0 0 = 0 := by rw [mI_uI, if_pos ⟨rfl, rfl⟩]
  generalize hx : uI u 0 0 0 = x at R' f z0 ⊢
  obtain ⟨⟨n1, n2⟩, ht, hl, hb, hk, hq⟩ := id R'
  have t3 : ∀ {k : Nat}, (∀ v, RM v N S → FrM wCy u v → (mI v 0 0 = (k : Int) ∧ Q65 u v S S) → P 0 v) → F_X12_throwing k x (fun a b => P a b) := fun {k} h => i_throwing (h _ (RM_thr hB R') (FrM_uI f (wHas_i (by decide))) ⟨by rw [mI_uI, if_pos ⟨rfl, rfl⟩], by rw [← hx]; exact Q65_t⟩)
  have bw := hB.2.2.2.1.1
  have mw := hk.1
  have hn := hB.2.1.1
  unfold pCopy at h
  refine i_isCell (by decide) (by decide) ?_
  rw [mw.1.1, mw.1.2]
  by_cases e1 : hasS S.2.2.2.1.1 r c
  rotate_left
  · rw [show tb ((1 ≤ r ∧ r ≤ S.2.2.2.1.1.1.1) ∧ 1 ≤ c ∧ c ≤ S.2.2.2.1.1.1.2) = 0 by rw [tb, if_neg e1], if_pos rfl]
    rw [if_neg (fun w => e1 w.1.1)] at h; exact t3 (k := 1) h
  rw [show tb ((1 ≤ r ∧ r ≤ S.2.2.2.1.1.1.1) ∧ 1 ≤ c ∧ c ≤ S.2.2.2.1.1.1.2) = 1 by rw [tb, if_pos e1], if_neg (by decide)]
  refine i_isCell (by decide) (by decide) ?_
  rw [mw.1.1, mw.1.2]
  by_cases e2 : hasS S.2.2.2.1.1 r2 c2
  rotate_left
  · rw [show tb ((1 ≤ r2 ∧ r2 ≤ S.2.2.2.1.1.1.1) ∧ 1 ≤ c2 ∧ c2 ≤ S.2.2.2.1.1.1.2) = 0 by rw [tb, if_neg e2], if_pos rfl]
    rw [if_neg (fun w => e2 w.1.2)] at h; exact t3 (k := 1) h
  rw [show tb ((1 ≤ r2 ∧ r2 ≤ S.2.2.2.1.1.1.1) ∧ 1 ≤ c2 ∧ c2 ≤ S.2.2.2.1.1.1.2) = 1 by rw [tb, if_pos e2], if_neg (by decide)]
  refine i_isCell (by decide) (by decide) ?_
  rw [mw.1.1, mw.1.2]
  by_cases e3 : hasS S.2.2.2.1.1 ar ac
  rotate_left
  · rw [show tb ((1 ≤ ar ∧ ar ≤ S.2.2.2.1.1.1.1) ∧ 1 ≤ ac ∧ ac ≤ S.2.2.2.1.1.1.2) = 0 by rw [tb, if_neg e3], if_pos rfl]
    rw [if_neg (fun w => e3 w.2)] at h; exact t3 (k := 1) h
  rw [show tb ((1 ≤ ar ∧ ar ≤ S.2.2.2.1.1.1.1) ∧ 1 ≤ ac ∧ ac ≤ S.2.2.2.1.1.1.2) = 1 by rw [tb, if_pos e3], if_neg (by decide)]
  rw [if_pos ⟨⟨e1, e2⟩, e3⟩] at h
  by_cases e4 : r2 < r
  · rw [if_pos e4]; rw [if_neg (by omega)] at h; exact t3 (k := 2) h
  rw [if_neg e4]
  by_cases e5 : c ≤ c2
  rotate_left
  · rw [if_neg e5]; rw [if_neg (by omega)] at h; exact t3 (k := 2) h
  rw [if_pos e5]
  rw [if_pos (by omega)] at h
  obtain ⟨⟨b1, b2⟩, b3, b4⟩ := bw
  obtain ⟨⟨r0, r1⟩, c0, c1⟩ := e1
  obtain ⟨⟨r20, r21⟩, c20, c21⟩ := e2
  obtain ⟨⟨ar0, ar1⟩, ac0, ac1⟩ := e3
  rw [w32e (x := r2 - r) (by omega) (by omega), w32e (x := c2 - c) (by omega) (by omega), w32e (x := S.2.2.2.1.1.1.1 - ar) (by omega) (by omega), w32e (x := S.2.2.2.1.1.1.2 - ac) (by omega) (by omega)]
  refine i_least (i_least ?_)
  rw [w32e (x := min (r2 - r) (S.2.2.2.1.1.1.1 - ar) + 1) (by omega) (by omega), w32e (x := min (c2 - c) (S.2.2.2.1.1.1.2 - ac) + 1) (by omega) (by omega)]
  have eh : min (r2 - r) (S.2.2.2.1.1.1.1 - ar) + 1 = cpH S.2.2.2.1.1 r r2 ar := rfl
  have ew : min (c2 - c) (S.2.2.2.1.1.1.2 - ac) + 1 = cpW S.2.2.2.1.1 c c2 ac := rfl
  have hB1 : 1 ≤ cpH S.2.2.2.1.1 r r2 ar ∧ r - 1 + cpH S.2.2.2.1.1 r r2 ar ≤ S.2.2.2.1.1.1.1 ∧ ar - 1 + cpH S.2.2.2.1.1 r r2 ar ≤ S.2.2.2.1.1.1.1 := by rw [← eh]; omega
  have wB1 : 1 ≤ cpW S.2.2.2.1.1 c c2 ac ∧ c - 1 + cpW S.2.2.2.1.1 c c2 ac ≤ S.2.2.2.1.1.1.2 ∧ ac - 1 + cpW S.2.2.2.1.1 c c2 ac ≤ S.2.2.2.1.1.1.2 := by rw [← ew]; omega
  rw [eh, ew]
  generalize cpH S.2.2.2.1.1 r r2 ar = hh at h hB1
  generalize cpW S.2.2.2.1.1 c c2 ac = ww at h wB1
  have hb2 : 1 ≤ hh * ww ∧ hh * ww ≤ 320 := cnt ⟨hB1.1, by omega⟩ ⟨wB1.1, by omega⟩
  have wf1 := ShM_CoW mw
  have Bx : CoB x := CoB_of hB R' hN pm.2
  unfold F_X12_copy_111
  refine lp_I (fun t => (0 ≤ t.2 ∧ t.2 ≤ hh * ww) ∧ 0 ≤ t.1 ∧ t.1 + sumN (pcK S.2.2.2.1.1 r c ww) (hh * ww - t.2).toNat t.2 = moreP S.2.2.2.1.1 r c hh ww) (fun t => (hh * ww - t.2).toNat) ?_ (0, 0) ⟨⟨by show (0 : Int) ≤ 0; decide, by show (0 : Int) ≤ hh * ww; omega⟩, by decide, by show (0 : Int) + sumN _ (hh * ww - 0).toNat 0 = _; rw [Int.sub_zero, Int.zero_add]; rfl⟩
  rintro G ⟨acc, k⟩ ⟨⟨k0, k1⟩, a0, hsum⟩ ih
  simp only at k0 k1 a0 hsum
  unfold L_X12_copy_111 F_X12_copy_166
  dsimp only
  have mb := moreP_b wB1.1 hb2.2 (by omega) wf1 r0 c0 hB1.2.1 wB1.2.1 (k := 0) (by omega) (by omega)
  rw [Int.sub_zero] at mb
  have mb2 : 0 ≤ moreP S.2.2.2.1.1 r c hh ww ∧ moreP S.2.2.2.1.1 r c hh ww ≤ 19200 := mb
  have kb := moreP_b wB1.1 hb2.2 (by omega) wf1 r0 c0 hB1.2.1 wB1.2.1 (k := k) k0 k1
  rw [w32e (x := hh * ww) (by omega) (by omega)]
  by_cases ek : hh * ww ≤ k
  rotate_left
  · rw [if_neg ek]
    obtain ⟨⟨i1, i2⟩, ⟨i3, i4⟩, i5⟩ := ixrc k0 (by omega : k < hh * ww) wB1.1
    refine ⟨by omega, by omega, ?_⟩
    rw [tdivE k0, tmodE k0, w32e (x := k / ww) (by omega) (by omega), w32e (x := k % ww) (by omega) (by omega), w32e (x := r + k / ww) (by omega) (by omega), w32e (x := c + k % ww) (by omega) (by omega), w32e (x := k + 1) (by omega) (by omega)]
    refine i_cellAt (by decide) (by decide) (by omega) (by omega) (by omega) (by omega) ?_
    have hm := mw.2.2.2 (r + k / ww - 1) (c + k % ww - 1) (by omega) (by omega) (by omega) (by omega)
    generalize mI x 5 (320 * 40 + 10 * (r + k / ww - 1) + (c + k % ww - 1)) = code at hm
    rw [show (hh * ww - k).toNat = (hh * ww - (k + 1)).toNat + 1 by omega, sumN] at hsum
    have ek2 : pcK S.2.2.2.1.1 r c ww k = (pcN (S.2.2.2.1.1.2.2.2 (r + k / ww - 1) (c + k % ww - 1)) : Int) := by
      unfold pcK; rw [show r - 1 + k / ww = r + k / ww - 1 by omega, show c - 1 + k % ww = c + k % ww - 1 by omega]
    rw [ek2] at hsum
    generalize S.2.2.2.1.1.2.2.2 (r + k / ww - 1) (c + k % ww - 1) = con at hm hsum
    have kb2 := moreP_b wB1.1 hb2.2 (by omega) wf1 r0 c0 hB1.2.1 wB1.2.1 (k := k + 1) (by omega) (by omega)
    refine i_isFormula ?_
    rcases ContM_f Bx hm with ⟨l, ps, g1, g2, g3, g4⟩ | ⟨g1, g2, g3⟩
    · rw [if_pos (show 0 < code ∧ code < 100000 from ⟨g2, g3⟩), if_neg (by decide), w32e (x := code - 1) (by omega) (by omega)]
      have e : (pcN con : Int) = (ps.length : Int) := by rw [g1]; rfl
      have q := hm
      rw [g1] at q
      unfold ContM at q
      simp only at q
      rw [if_pos trivial] at q
      have q1 := q.1
      have q3 := q.2.2.1.1
      have B3 := Bx.2.2
      refine ⟨by omega, by omega, ?_⟩
      rw [g4, w32e (by omega) (by omega)]
      exact ih (acc + ps.length, k + 1) ⟨⟨by show 0 ≤ k + 1; omega, by show k + 1 ≤ hh * ww; omega⟩, by show 0 ≤ acc + _; omega, by show acc + _ + sumN _ (hh * ww - (k + 1)).toNat (k + 1) = _; omega⟩ (by show (hh * ww - (k + 1)).toNat < (hh * ww - k).toNat; omega)
    · rw [if_neg (show ¬ (0 < code ∧ code < 100000) from g3), if_pos rfl, w32e (by omega) (by omega)]
      exact ih (acc + 0, k + 1) ⟨⟨by show 0 ≤ k + 1; omega, by show k + 1 ≤ hh * ww; omega⟩, by show 0 ≤ acc + 0; omega, by show acc + 0 + sumN _ (hh * ww - (k + 1)).toNat (k + 1) = _; omega⟩ (by show (hh * ww - (k + 1)).toNat < (hh * ww - k).toNat; omega)
  rw [if_pos ek]
  have ek' : k = hh * ww := by omega
  rw [ek', Int.sub_self, show (0 : Int).toNat = 0 from rfl, sumN, Int.add_zero] at hsum
  clear ih kb
  show if w32 (mI x 0 25 + acc) ≤ 60000 then _ else _
  rw [hsum, hb.2.2.2.1, w32e (by omega) (by omega)]
  by_cases e6 : S.2.2.1.2.2.2.1 + moreP S.2.2.2.1.1 r c hh ww ≤ 60000
  rotate_left
  · rw [if_neg e6]; rw [if_neg e6] at h; exact t3 (k := 3) h
  rw [if_pos e6]; rw [if_pos e6] at h
  refine i_step hB R' (fun u1 kept R1 f1 z1 hkept mkept => ?_)
  have hB0 := Bd_step0 hB
  have bw' : ShB S.2.2.2.1.1 := ⟨⟨b1, b2⟩, b3, b4⟩
  have fu1 : FrM wCy u u1 := FrM_tr f (FrM_sub f1 (by decide))
  generalize hM0 : S.2.2.1.2.2.2.1 = M0 at h e6 pm
  have pw := pStep0_w S
  have pl : (pStep0 S).2.1 = S.2.1 := by unfold pStep0; dsimp only
  have pb : (pStep0 S).2.2.1 = S.2.2.1 := by unfold pStep0; dsimp only
  unfold F_X12_copy_203
  refine lp_I (fun t => (0 ≤ t.1 ∧ t.1 ≤ hh * ww) ∧ RM t.2 N (setW (setP (pStep0 S) (M0 + (moreP S.2.2.2.1.1 r c hh ww - sumN (pcK S.2.2.2.1.1 r c ww) (hh * ww - t.1).toNat t.1))) (cpS2 S S.2.2.2.1.1 r c ar ac hh ww t.1)) ∧ ShM t.2 kept S.2.2.2.1.1 ∧ FrM wCy u t.2 ∧ mI t.2 0 0 = 0 ∧ mI t.2 0 65 = 0) (fun t => (hh * ww - t.1).toNat) ?_ (0, u1) ⟨⟨by show (0 : Int) ≤ 0; decide, by show (0 : Int) ≤ hh * ww; omega⟩, ?_, mkept, fu1, by show mI u1 0 0 = 0; rw [z1.1]; exact z0, z1.2⟩
  · rintro G ⟨k, y⟩ ⟨⟨k0, k1⟩, Ry, my, fy, zy⟩ ih
    simp only at k0 k1 Ry my fy zy
    unfold L_X12_copy_203 F_X12_copy_259
    dsimp only
    rw [w32e (x := hh * ww) (by omega) (by omega)]
    by_cases ek : hh * ww ≤ k
    · rw [if_pos ek]
      have ek' : k = hh * ww := by omega
      rw [ek', Int.sub_self, show (0 : Int).toNat = 0 from rfl, sumN, Int.sub_zero] at Ry
      show P (hh * ww) y
      refine h y ?_ fy ⟨zy.1, Or.inl zy.2⟩
      show RM y N (setW (pStep0 (setP S (M0 + moreP S.2.2.2.1.1 r c hh ww))) (cpS2 S S.2.2.2.1.1 r c ar ac hh ww (hh * ww)))
      rw [setP_step]; exact Ry
    · rw [if_neg ek]
      obtain ⟨⟨i1, i2⟩, ⟨i3, i4⟩, i5⟩ := ixrc k0 (by omega : k < hh * ww) wB1.1
      refine ⟨by omega, by omega, ?_⟩
      rw [tdivE k0, tmodE k0, w32e (x := k / ww) (by omega) (by omega), w32e (x := k % ww) (by omega) (by omega), w32e (x := r + k / ww) (by omega) (by omega), w32e (x := c + k % ww) (by omega) (by omega), w32e (x := k + 1) (by omega) (by omega), w32e (x := ar + k / ww) (by omega) (by omega), w32e (x := ac + k % ww) (by omega) (by omega), w32e (x := ar - r) (by omega) (by omega), w32e (x := ac - c) (by omega) (by omega)]
      refine i_cellAt (by omega) (by omega) (by omega) (by omega) (by omega) (by omega) ?_
      have hm := my.2.2.2 (r + k / ww - 1) (c + k % ww - 1) (by omega) (by omega) (by omega) (by omega)
      generalize mI y 5 (320 * kept + 10 * (r + k / ww - 1) + (c + k % ww - 1)) = code at hm
      have rest := moreP_b wB1.1 hb2.2 (by omega) wf1 r0 c0 hB1.2.1 wB1.2.1 (k := k + 1) (by omega) (by omega)
      have restk := moreP_b wB1.1 hb2.2 (by omega) wf1 r0 c0 hB1.2.1 wB1.2.1 (k := k) (by omega) (by omega)
      have ssum : sumN (pcK S.2.2.2.1.1 r c ww) (hh * ww - k).toNat k = (pcN (S.2.2.2.1.1.2.2.2 (r + k / ww - 1) (c + k % ww - 1)) : Int) + sumN (pcK S.2.2.2.1.1 r c ww) (hh * ww - (k + 1)).toNat (k + 1) := by
        rw [show (hh * ww - k).toNat = (hh * ww - (k + 1)).toNat + 1 by omega, sumN]
        unfold pcK; rw [show r - 1 + k / ww = r + k / ww - 1 by omega, show c - 1 + k % ww = c + k % ww - 1 by omega]
      have totk : sumN (pcK S.2.2.2.1.1 r c ww) (hh * ww - k).toNat k ≤ moreP S.2.2.2.1.1 r c hh ww := by
        have key : ∀ (m : Nat) (j : Int), 0 ≤ j → j + m = hh * ww → sumN (pcK S.2.2.2.1.1 r c ww) m j + (moreP S.2.2.2.1.1 r c hh ww - sumN (pcK S.2.2.2.1.1 r c ww) m j) = moreP S.2.2.2.1.1 r c hh ww := fun m j _ _ => by omega
        have mono : ∀ (t : Nat), (t : Int) ≤ hh * ww → sumN (pcK S.2.2.2.1.1 r c ww) (hh * ww - t).toNat t ≤ moreP S.2.2.2.1.1 r c hh ww := by
          intro t
          induction t with
          | zero => intro _; show sumN _ (hh * ww - 0).toNat 0 ≤ _; rw [Int.sub_zero]; exact Int.le_refl _
          | succ t iht =>
            intro ht
            have h1 := iht (by omega)
            rw [show (hh * ww - (t : Int)).toNat = (hh * ww - ((t + 1 : Nat) : Int)).toNat + 1 by omega, sumN, show (t : Int) + 1 = ((t + 1 : Nat) : Int) by omega] at h1
            have h2 := pcK_b wB1.1 wf1 r0 c0 hB1.2.1 wB1.2.1 (k := (t : Int)) (by omega) (by omega)
            omega
        have := mono k.toNat (by omega)
        rw [Int.toNat_of_nonneg k0] at this; exact this
      generalize hcon : S.2.2.2.1.1.2.2.2 (r + k / ww - 1) (c + k % ww - 1) = con at hm ssum
      generalize hRS : sumN (pcK S.2.2.2.1.1 r c ww) (hh * ww - (k + 1)).toNat (k + 1) = restS at rest ssum
      rw [ssum] at Ry restk totk
      have hBy : Bd (setW (setP (pStep0 S) (M0 + (moreP S.2.2.2.1.1 r c hh ww - ((pcN con : Int) + restS)))) (cpS2 S S.2.2.2.1.1 r c ar ac hh ww k)) := Bd_setW (Bd_setP hB0) bw'
      have By : CoB y := CoB_of hBy Ry hN (by show M0 + _ ≤ 60000; omega)
      have y25 : mI y 0 25 = M0 + (moreP S.2.2.2.1.1 r c hh ww - ((pcN con : Int) + restS)) := Ry.2.2.2.1.2.2.2.1
      -- put one content and go on
      have put : ∀ (v : Mu) (q : Int) (t : Cont), RM v N (setW (setP (pStep0 S) (M0 + (moreP S.2.2.2.1.1 r c hh ww - restS))) (cpS2 S S.2.2.2.1.1 r c ar ac hh ww k)) → ShM v kept S.2.2.2.1.1 → FrM wCy u v → (mI v 0 0 = 0 ∧ mI v 0 65 = 0) → ContM v q t → t = shfC S (ar - r) (ac - c) con → (¬ ww = 0 ∧ (¬ ww = 0 ∧ F_X12_setCell (ar + k / ww) (ac + k % ww) q v (fun u_278 => G (k + 1, u_278)))) := by
        intro v q t Rv mv fv zv hq' ht'
        refine ⟨by omega, by omega, i_setCell (by omega) (by omega) (by omega) (by omega) ?_⟩
        have hBv : Bd (setW (setP (pStep0 S) (M0 + (moreP S.2.2.2.1.1 r c hh ww - restS))) (cpS2 S S.2.2.2.1.1 r c ar ac hh ww k)) := Bd_setW (Bd_setP hB0) bw'
        have R2 := RM_cell (r := ar + k / ww - 1) (c := ac + k % ww - 1) hBv Rv (by omega) (by omega) hq'
        have eF : setW (setW (setP (pStep0 S) (M0 + (moreP S.2.2.2.1.1 r c hh ww - restS))) (cpS2 S S.2.2.2.1.1 r c ar ac hh ww k)) (updS (cpS2 S S.2.2.2.1.1 r c ar ac hh ww k) (ar + k / ww - 1) (ac + k % ww - 1) t) = setW (setP (pStep0 S) (M0 + (moreP S.2.2.2.1.1 r c hh ww - restS))) (cpS2 S S.2.2.2.1.1 r c ar ac hh ww (k + 1)) := by
          have e : updS (cpS2 S S.2.2.2.1.1 r c ar ac hh ww k) (ar + k / ww - 1) (ac + k % ww - 1) t = cpS2 S S.2.2.2.1.1 r c ar ac hh ww (k + 1) := by
            unfold updS cpS2
            dsimp only
            congr 3
            funext a d
            have := cpC_s (S := S) (s := S.2.2.2.1.1) (r := r) (c := c) (ar := ar) (ac := ac) (h := hh) (w := ww) (a := a) (d := d) i1 i2 i3 i4
            rw [show k / ww * ww + (k % ww + 1) = k + 1 by omega, show k / ww * ww + k % ww = k by omega, hcon] at this
            rw [this, ht']
          show setW (setP (pStep0 S) _) (updS (cpS2 S S.2.2.2.1.1 r c ar ac hh ww k) (ar + k / ww - 1) (ac + k % ww - 1) t) = _
          rw [e]
        have R3 : RM (uI v 5 (12800 + 10 * (ar + k / ww - 1) + (ac + k % ww - 1)) q) N (setW (setP (pStep0 S) (M0 + (moreP S.2.2.2.1.1 r c hh ww - restS))) (cpS2 S S.2.2.2.1.1 r c ar ac hh ww (k + 1))) := by rw [← eF]; exact R2
        refine ih (k + 1, _) ⟨⟨by show 0 ≤ k + 1; omega, by show k + 1 ≤ hh * ww; omega⟩, by show RM _ N (setW (setP (pStep0 S) (M0 + (moreP S.2.2.2.1.1 r c hh ww - sumN (pcK S.2.2.2.1.1 r c ww) (hh * ww - (k + 1)).toNat (k + 1)))) _); rw [hRS]; exact R3, ?_, FrM_uI fv (wHas_a (by decide)), by show mI (uI v _ _ _) 0 0 = 0; rw [mI_uI, if_neg (by omega)]; exact zv.1, by show mI (uI v _ _ _) 0 65 = 0; rw [mI_uI, if_neg (by omega)]; exact zv.2⟩ (by show (hh * ww - (k + 1)).toNat < (hh * ww - k).toNat; omega)
        have fx : FrM [(5, none)] v (uI v 5 (12800 + 10 * (ar + k / ww - 1) + (ac + k % ww - 1)) q) := FrM_uI FrM_rf (wHas_a (by decide))
        refine ShM_s bw' (Grw_fr Rv.1.1.1 fx (by decide)) ?_ mv
        refine ⟨?_, ?_, fun k a b => ?_, fun k a b => ?_, fun k a b => ?_⟩ <;> rw [mI_uI, if_neg (by omega)]
      refine i_isFormula ?_
      rcases ContM_f By hm with ⟨l, ps, g1, g2, g3, g4⟩ | ⟨g1, g2, g3⟩
      · rw [if_pos (show 0 < code ∧ code < 100000 from ⟨g2, g3⟩), if_neg (by decide)]
        have hpc : (pcN con : Int) = (ps.length : Int) := by rw [g1]; rfl
        rw [hpc] at Ry y25 restk totk hBy
        have vrc := wf (r + k / ww - 1) (c + k % ww - 1) (by omega) (by omega) (by omega) (by omega)
        rw [hcon] at vrc
        rw [g1] at hm
        refine i_copyFormula (S := S) By hm (by rw [y25]; omega) hn.2 (fun v fv gv w hw => ?_) (fun p hp => vrc 5 l ps g1 p hp) (by omega) (by omega) (fun v fv gv v25 cv => ?_)
        · have Rv := RM_cf hBy Ry fv gv rfl
          by_cases ew : w = -1
          · refine ⟨cpS2 S S.2.2.2.1.1 r c ar ac hh ww k, ?_, ?_, bw', ?_⟩
            · unfold shOf; rw [if_pos ew]; exact ⟨rfl, rfl, rfl⟩
            · unfold slt; rw [if_pos ew]; exact Rv.2.2.2.2.1.1
            · have q := his w hw
              unfold shOf at q; rw [if_pos ew] at q; exact q
          · have hw0 : 0 ≤ w ∧ w < S.2.1.1 := by unfold isShP at hw; omega
            refine ⟨S.2.1.2.1 w, ?_, ?_, (hB.2.1.2 w hw0.1 hw0.2).1, ?_⟩
            · unfold shOf; rw [if_neg ew]; exact ⟨rfl, rfl, rfl⟩
            · unfold slt; rw [if_neg ew]
              have q := Rv.2.2.1.2 w hw0.1 (by show w < (pStep0 S).2.1.1; rw [pl]; exact hw0.2)
              have q1 := q.1
              have e2 : (setP (setW (setP (pStep0 S) (M0 + (moreP S.2.2.2.1.1 r c hh ww - ((ps.length : Int) + restS)))) (cpS2 S S.2.2.2.1.1 r c ar ac hh ww k)) (mI v 0 25)).2.1.2.1 w = S.2.1.2.1 w := by show (pStep0 S).2.1.2.1 w = _; rw [pl]
              rw [e2] at q1; exact q1
            · have q := his w hw
              unfold shOf at q; rw [if_neg ew] at q; exact q
        · rw [y25] at v25
          have Rv := RM_cf (m := M0 + (moreP S.2.2.2.1.1 r c hh ww - restS)) hBy Ry fv gv (by rw [v25]; omega)
          refine put v _ _ Rv (ShM_s bw' gv (SlM_fr fv (by decide)) my) (FrM_tr fy (FrM_sub fv (by decide))) ⟨by rw [mE fv (R := [(0, some 0)]) (by decide) (wHas_i (by decide))]; exact zy.1, by rw [e65 fv (by decide)]; exact zy.2⟩ cv ?_
          rw [g1]; unfold shfC; dsimp only; rw [if_pos rfl]
      · rw [if_neg (show ¬ (0 < code ∧ code < 100000) from g3), if_pos rfl]
        rw [g2] at Ry
        rw [show ((0 : Nat) : Int) + restS = restS by omega] at Ry
        exact put y code con Ry my fy zy hm (g1 S _ _).symm
  · show RM u1 N (setW (setP (pStep0 S) (M0 + (moreP S.2.2.2.1.1 r c hh ww - sumN (pcK S.2.2.2.1.1 r c ww) (hh * ww - 0).toNat 0))) (cpS2 S S.2.2.2.1.1 r c ar ac hh ww 0))
    rw [Int.sub_zero, show sumN (pcK S.2.2.2.1.1 r c ww) (hh * ww).toNat 0 = moreP S.2.2.2.1.1 r c hh ww from rfl, Int.sub_self, Int.add_zero]
    have e : cpS2 S S.2.2.2.1.1 r c ar ac hh ww 0 = (pStep0 S).2.2.2.1.1 := by
      rw [pw]
      unfold cpS2
      show _ = (S.2.2.2.1.1.1, S.2.2.2.1.1.2.1, S.2.2.2.1.1.2.2.1, S.2.2.2.1.1.2.2.2)
      congr 3
      funext a d
      exact cpC_0 S S.2.2.2.1.1 r c ar ac hh ww a d wB1.1
    have e2 : setP (pStep0 S) M0 = pStep0 S := by
      rw [← hM0, ← pb]; rfl
    rw [e2, e, setW_self]; exact R1
