/-! ===== insert, remove, move of the reference ===== -/
theorem fst1_n {f : Int → Int} {x : Int} : ∀ (m : Nat) (k j : Int), k ≤ j → j < k + m → f j = x → k ≤ 0 ∨ 0 ≤ k → 0 ≤ k → fst1 f x m k ≠ -1
  | 0, k, j, h1, h2, _, _, _ => by omega
  | m + 1, k, j, h1, h2, h3, _, h5 => by
    rw [fst1]
    by_cases e : f k = x
    · rw [if_pos e]; omega
    · rw [if_neg e]
      have : j ≠ k := fun w => e (by rw [← w]; exact h3)
      exact fst1_n m (k + 1) j (by omega) (by omega) h3 (Or.inr (by omega)) (by omega)
/-- ids of a sheet are different -/
def DsS (s : Sh) : Prop := ∀ ax, ax = 0 ∨ ax = 1 → ∀ i j, 0 ≤ i → i < lnS s ax → 0 ≤ j → j < lnS s ax → idS s ax i = idS s ax j → i = j
theorem plS_id {s : Sh} {ax i : Int} (hd : DsS s) (hax : ax = 0 ∨ ax = 1) (i0 : 0 ≤ i) (i1 : i < lnS s ax) : plS s ax (idS s ax i) = i := by
  rcases plS_b s ax (idS s ax i) with e | ⟨h1, h2, h3⟩
  · exact absurd e (fst1_n _ 0 i i0 (by omega) rfl (Or.inr (by omega)) (by omega))
  · exact hd ax hax _ _ h1 h2 i0 i1 h3
theorem plS_no {s : Sh} {ax x : Int} (h : ∀ i, 0 ≤ i → i < lnS s ax → idS s ax i ≠ x) : plS s ax x = -1 := by
  rcases plS_b s ax x with e | ⟨h1, h2, h3⟩
  · exact e
  · exact absurd h3 (h _ h1 h2)
/-- a cell by its line and its place across -/
def celL (s : Sh) (ax j k : Int) : Cont := if ax = 0 then s.2.2.2 j k else s.2.2.2 k j
theorem shA_ln (s : Sh) (ax n : Int) (ids : Int → Int) (hax : ax = 0 ∨ ax = 1) : lnS (shA s ax n ids) ax = n ∧ lnS (shA s ax n ids) (1 - ax) = lnS s (1 - ax) ∧ idS (shA s ax n ids) ax = ids ∧ idS (shA s ax n ids) (1 - ax) = idS s (1 - ax) := by
  rcases hax with rfl | rfl
  · exact ⟨rfl, rfl, rfl, rfl⟩
  · exact ⟨rfl, rfl, rfl, rfl⟩
theorem shA_c (s : Sh) (ax n : Int) (ids : Int → Int) (hax : ax = 0 ∨ ax = 1) (j k : Int) : celL (shA s ax n ids) ax j k = if 0 ≤ plS s ax (ids j) then celL s ax (plS s ax (ids j)) k else none := by
  rcases hax with rfl | rfl
  · rfl
  · rfl
theorem ShM_c {u : Mu} {t : Int} {s : Sh} {ax j k : Int} (hax : ax = 0 ∨ ax = 1) (m : ShM u t s) (j0 : 0 ≤ j) (j1 : j < lnS s ax) (k0 : 0 ≤ k) (k1 : k < lnS s (1 - ax)) : ContM u (mI u 5 (320 * t + onL ax j k)) (celL s ax j k) := by
  rcases hax with rfl | rfl
  · have q := m.2.2.2 j k j0 j1 k0 k1
    rw [show 320 * t + 10 * j + k = 320 * t + (10 * j + k) by omega] at q
    exact q
  · have q := m.2.2.2 k j k0 k1 j0 j1
    rw [show 320 * t + 10 * k + j = 320 * t + (10 * k + j) by omega] at q
    exact q
theorem W4_RM {u w : Mu} {N : Int} {S : SS} {ax n : Int} {T : LT} {s' : Sh} (hax : ax = 0 ∨ ax = 1) (hB : Bd S) (R : RM u N S) (W : W4 u w ax T n) (n1 : n ≤ mst ax) (e1 : lnS s' ax = n) (e2 : lnS s' (1 - ax) = lnS S.2.2.2.1.1 (1 - ax)) (e3 : ∀ k, 0 ≤ k → k < lnS s' (1 - ax) → idS s' (1 - ax) k = idS S.2.2.2.1.1 (1 - ax) k) (e4 : ∀ j, 0 ≤ j → j < n → (T j).1 = idS s' ax j) (e5 : ∀ j k, 0 ≤ j → j < n → 0 ≤ k → k < lnS s' (1 - ax) → ContM u ((T j).2 k) (celL s' ax j k)) : RM w N (setW S s') := by
  obtain ⟨⟨g1, g2⟩, ht, hl, hb, hk, hq⟩ := R
  obtain ⟨w1, w2, w3, w4, w5, w6⟩ := W
  have g := Grw_fr g1.1 w2 (by decide)
  have z19 := mE w2 (R := rgC) (by decide) (k := 0) (i := 19) (wHas_i (by decide))
  have z24 := mE w2 (R := rgC) (by decide) (k := 0) (i := 24) (wHas_i (by decide))
  have hk' := hB.2.2.2.1
  have e15 := mE w2 (R := rmK) (by decide) (k := 0) (i := 15) (wHas_i (by decide))
  have e16 := mE w2 (R := rmK) (by decide) (k := 0) (i := 16) (wHas_i (by decide))
  have e17 := mE w2 (R := rmK) (by decide) (k := 0) (i := 17) (wHas_i (by decide))
  obtain ⟨k1, ⟨k2, k3, k4, k5⟩, k6, k7⟩ := hk
  have lb := lnS_b hk'.1 (1 - ax)
  refine ⟨by rw [z19, z24]; exact ⟨g1, g2⟩, RMt_fr w2 (by decide) ht, RMl_fr w2 (by decide) (fun k a c => (hB.2.1.2 k a c).1) g (fun k a c => (by have c' : k < S.2.1.1 := c; have := hB.2.1.1; exact w3 k a (by omega))) hl, RMb_fr w2 (by decide) hb, ⟨?_, ⟨by rw [e16]; exact k2, by rw [e17]; exact k3, by rw [e15]; exact ⟨k4, k5⟩⟩, fun k a c => by rw [e15]; exact ShM_s (hk'.2.2.1 k a c) g (w3 _ (by omega) (by omega)) (k6 k a c), fun k a c => ShM_s (hk'.2.2.2 k a c) g (w3 _ (by omega) (by omega)) (k7 k a c)⟩, RMq_fr w2 (by decide) g hq⟩
  show ShM w 40 s'
  have cross : lnM w 40 (1 - ax) = lnS s' (1 - ax) := by rw [w5, e2]; exact ShM_ln k1 (1 - ax)
  have along : lnM w 40 ax = lnS s' ax := by rw [w6, e1]
  have ida : ∀ j, 0 ≤ j → j < lnS s' ax → idM w 40 ax j = idS s' ax j := fun j a c => by
    rw [(w1 j a (by omega)).1]; exact e4 j a (by omega)
  have idc : ∀ k, 0 ≤ k → k < lnS s' (1 - ax) → idM w 40 (1 - ax) k = idS s' (1 - ax) k := fun k a c => by
    rw [w4 k a (by omega), ShM_id k1 (1 - ax) k a (by omega)]; exact (e3 k a c).symm
  have lgm : mst (1 - ax) = lg ax := by rcases hax with rfl | rfl <;> rfl
  have cel : ∀ j k, 0 ≤ j → j < lnS s' ax → 0 ≤ k → k < lnS s' (1 - ax) → ContM w (mI w 5 (12800 + onL ax j k)) (celL s' ax j k) := fun j k a c d e => by
    rw [(w1 j a (by omega)).2 k d (by omega)]; exact ContM_g g (e5 j k a (by omega) d e)
  rcases hax with rfl | rfl
  · refine ⟨⟨along, cross⟩, ida, idc, fun r c r0 r1 c0 c1 => ?_⟩
    have q := cel r c r0 r1 c0 c1
    rw [show (320 : Int) * 40 + 10 * r + c = 12800 + (10 * r + c) by omega]
    exact q
  · refine ⟨⟨cross, along⟩, idc, ida, fun r c r0 r1 c0 c1 => ?_⟩
    have q := cel c r c0 c1 r0 r1
    rw [show (320 : Int) * 40 + 10 * r + c = 12800 + (10 * r + c) by omega]
    exact q
def lnw (v : Mu) (ax m : Int) : Mu := if ax = 0 then uI v 1 40 m else uI v 2 40 m
theorem i_setLines {ax m : Int} {v : Mu} {P : Mu → Prop} (h : P (lnw v ax m)) : F_X12_setLines 40 ax m v P := by
  unfold F_X12_setLines F_X12_setLines_21; unfold lnw at h
  split
  · next c => rw [if_pos c] at h; refine ⟨by decide, by decide, ?_⟩; rintro _ rfl; exact h
  · next c => rw [if_neg c] at h; refine ⟨by decide, by decide, ?_⟩; rintro _ rfl; exact h
theorem W4_ln {u v : Mu} {ax n m : Int} {T : LT} (hax : ax = 0 ∨ ax = 1) (h : W4 u v ax T n) : W4 u (lnw v ax m) ax T m := by
  obtain ⟨h1, h2, h3, h4, h5, h6⟩ := h
  unfold lnw
  rcases hax with rfl | rfl
  · rw [if_pos rfl]
    have e : ∀ k i, 3 ≤ k → mI (uI v 1 40 m) k i = mI v k i := fun k i hk => by rw [mI_uI, if_neg (by omega)]
    refine ⟨fun j a c => ?_, FrM_uI h2 (wHas_a (by decide)), fun t t0 t1 => ?_, fun k a c => ?_, ?_, ?_⟩
    · obtain ⟨q1, q2⟩ := h1 j a c
      exact ⟨by show mI (uI v 1 40 m) 3 _ = _; rw [e 3 _ (by decide)]; exact q1, fun k a c => by rw [e 5 _ (by decide)]; exact q2 k a c⟩
    · obtain ⟨s1, s2, s3, s4, s5⟩ := h3 t t0 t1
      refine ⟨?_, ?_, fun k' a c => ?_, fun k' a c => ?_, fun k' a c => ?_⟩ <;> rw [mI_uI, if_neg (by omega)]
      · exact s1
      · exact s2
      · exact s3 k' a c
      · exact s4 k' a c
      · exact s5 k' a c
    · have q := h4 k a c
      show mI (uI v 1 40 m) 4 _ = _; rw [e 4 _ (by decide)]; exact q
    · show mI (uI v 1 40 m) 2 40 = _; rw [mI_uI, if_neg (by omega)]; exact h5
    · show mI (uI v 1 40 m) 1 40 = m; rw [mI_uI, if_pos ⟨rfl, rfl⟩]
  · rw [if_neg (by decide)]
    have e : ∀ k i, 3 ≤ k → mI (uI v 2 40 m) k i = mI v k i := fun k i hk => by rw [mI_uI, if_neg (by omega)]
    refine ⟨fun j a c => ?_, FrM_uI h2 (wHas_a (by decide)), fun t t0 t1 => ?_, fun k a c => ?_, ?_, ?_⟩
    · obtain ⟨q1, q2⟩ := h1 j a c
      exact ⟨by show mI (uI v 2 40 m) 4 _ = _; rw [e 4 _ (by decide)]; exact q1, fun k a c => by rw [e 5 _ (by decide)]; exact q2 k a c⟩
    · obtain ⟨s1, s2, s3, s4, s5⟩ := h3 t t0 t1
      refine ⟨?_, ?_, fun k' a c => ?_, fun k' a c => ?_, fun k' a c => ?_⟩ <;> rw [mI_uI, if_neg (by omega)]
      · exact s1
      · exact s2
      · exact s3 k' a c
      · exact s4 k' a c
      · exact s5 k' a c
    · have q := h4 k a c
      show mI (uI v 2 40 m) 3 _ = _; rw [e 3 _ (by decide)]; exact q
    · show mI (uI v 2 40 m) 1 40 = _; rw [mI_uI, if_neg (by omega)]; exact h5
    · show mI (uI v 2 40 m) 2 40 = m; rw [mI_uI, if_pos ⟨rfl, rfl⟩]
theorem W4_0 (u : Mu) (ax : Int) : W4 u u ax (lnD u 40 ax) (lnM u 40 ax) := ⟨fun j _ _ => ⟨rfl, fun k _ _ => rfl⟩, FrM_rf, fun t _ _ => SlM_fr (L := []) FrM_rf (by decide), fun _ _ _ => rfl, rfl, rfl⟩
theorem lnS_cr {s : Sh} (hb : ShB s) {ax : Int} (hax : ax = 0 ∨ ax = 1) : lnS s (1 - ax) ≤ lg ax := by
  have h := (lnS_b hb (1 - ax)).2
  have : mst (1 - ax) = lg ax := by rcases hax with rfl | rfl <;> rfl
  omega
theorem i_remove {u : Mu} {N : Int} {S : SS} {ax p : Int} {P : Int → Mu → Prop} (hB : Bd S) (hD : DsS S.2.2.2.1.1) (R : RM u N S) (h : ∀ v, RM v N (pRemove ax p S).2.2 → FrM wUm u v → (mI v 0 0 = ((pRemove ax p S).1 : Int) ∧ Q65 u v S (pRemove ax p S).2.2) → P (pRemove ax p S).2.1 v) : F_X12_remove ax p u P := by
  unfold F_X12_remove
  rintro _ rfl
  have R' := RM_thr (x := 0) hB R
  have f : FrM wUm u (uI u 0 0 0) := FrM_uI FrM_rf (wHas_i (by decide))
  have z0 : mI (uI u 0 0 0) 0 0 = 0 := by rw [mI_uI, if_pos ⟨rfl, rfl⟩]
  generalize hv : uI u 0 0 0 = v at R' f z0 ⊢
  unfold pRemove at h
  have bw := hB.2.2.2.1.1
  have thr : ∀ k : Nat, ((RM (uI v 0 0 (k : Int)) N S) → FrM wUm u (uI v 0 0 (k : Int)) → (mI (uI v 0 0 (k : Int)) 0 0 = (k : Int) ∧ Q65 u (uI v 0 0 (k : Int)) S S) → P 0 (uI v 0 0 (k : Int))) → F_X12_throwing (k : Int) v (fun x_16 u_16 => P x_16 u_16) := fun k q => i_throwing (q (RM_thr hB R') (FrM_uI f (wHas_i (by decide))) ⟨by rw [mI_uI, if_pos ⟨rfl, rfl⟩], by rw [← hv]; exact Q65_t⟩)
  refine i_in ?_
  by_cases e : ax = 0 ∨ ax = 1
  · rw [show tb (0 ≤ ax ∧ ax ≤ 1) = 1 by rw [tb, if_pos (by omega)], if_neg (by decide)]
    rw [if_pos e] at h
    have m40 := R'.2.2.2.2.1.1
    refine i_linesOf (by decide) (by decide) ?_
    rw [ShM_ln m40 ax]
    have lb := lnS_b bw ax
    have mb := mst_b ax
    refine i_in ?_
    by_cases e1 : 1 ≤ p ∧ p ≤ lnS S.2.2.2.1.1 ax
    · rw [show tb (1 ≤ p ∧ p ≤ lnS S.2.2.2.1.1 ax) = 1 by rw [tb, if_pos e1], if_neg (by decide)]
      rw [if_pos e1] at h
      by_cases e2 : lnS S.2.2.2.1.1 ax = 1
      · rw [if_pos e2]; rw [if_pos e2] at h; exact thr 3 (fun a b c => h _ a b c)
      · rw [if_neg e2]; rw [if_neg e2] at h
        refine i_step hB R' (fun u1 kept R1 f1 z1 hk1 hkm => ?_)
        unfold F_X12_goLine
        refine i_linesOf (by decide) (by decide) ?_
        have m1 : ShM u1 40 S.2.2.2.1.1 := by have q := R1.2.2.2.2.1.1; rw [pStep0_w] at q; exact q
        rw [ShM_ln m1 ax]
        unfold F_X12_goLine_12
        have W0 := W4_0 u1 ax
        rw [ShM_ln m1 ax] at W0
        refine lp_I (fun q => (p ≤ q.1 ∧ q.1 ≤ lnS S.2.2.2.1.1 ax) ∧ W4 u1 q.2 ax (fun j => if p - 1 ≤ j ∧ j < q.1 - 1 then lnD u1 kept ax (j + 1) else lnD u1 40 ax j) (lnS S.2.2.2.1.1 ax)) (fun q => (lnS S.2.2.2.1.1 ax - q.1).toNat) ?_ (p, u1) ⟨⟨Int.le_refl _, e1.2⟩, W4_x W0 (fun j a c => by dsimp only; rw [if_neg (by omega)]; exact ⟨rfl, fun _ _ _ => rfl⟩)⟩
        rintro G ⟨j, w⟩ ⟨⟨j0, j1⟩, Ww⟩ ih
        simp only at j0 j1 Ww
        unfold L_X12_goLine_12
        dsimp only
        by_cases e3 : lnS S.2.2.2.1.1 ax ≤ j
        · rw [if_pos e3]
          have ej : j = lnS S.2.2.2.1.1 ax := by omega
          rw [ej] at Ww
          show F_X12_emptyLine ax (w32 (lnS S.2.2.2.1.1 ax - 1)) w _
          rw [w32e (x := lnS S.2.2.2.1.1 ax - 1) (by omega) (by omega)]
          refine i_emptyLine e Ww (by omega) (by omega) (fun w2 W2 => i_setLines ?_)
          have W3 := W4_ln (m := lnS S.2.2.2.1.1 ax - 1) e W2
          generalize lnw w2 ax (lnS S.2.2.2.1.1 ax - 1) = w3 at W3 ⊢
          have sa := shA_ln S.2.2.2.1.1 ax (lnS S.2.2.2.1.1 ax - 1) (wotF (idS S.2.2.2.1.1 ax) p) e
          refine h w3 ?_ (FrM_tr (FrM_tr f f1) (FrM_sub W3.2.1 (by decide))) ?_
          · refine W4_RM (S := pStep0 S) e (Bd_step0 hB) R1 W3 (by omega) sa.1 (by rw [pStep0_w]; exact sa.2.1) (fun k _ _ => by rw [pStep0_w, sa.2.2.2]) (fun i a c => ?_) (fun i k a c d g => ?_)
            · rw [sa.2.2.1]
              unfold upL
              rw [if_neg (by omega)]
              unfold wotF
              dsimp only
              by_cases q1 : i < p - 1
              · rw [if_pos q1, if_neg (show ¬ (p - 1 ≤ i ∧ i < lnS S.2.2.2.1.1 ax - 1) by omega)]; exact ShM_id m1 ax i a (by omega)
              · rw [if_neg q1, if_pos (show (p - 1 ≤ i ∧ i < lnS S.2.2.2.1.1 ax - 1) by omega)]; exact ShM_id hkm ax (i + 1) (by omega) (by omega)
            · rw [shA_c S.2.2.2.1.1 ax _ _ e]
              rw [sa.2.1] at g
              unfold upL
              rw [if_neg (by omega)]
              unfold wotF
              dsimp only
              by_cases q1 : i < p - 1
              · rw [if_pos q1, if_neg (show ¬ (p - 1 ≤ i ∧ i < lnS S.2.2.2.1.1 ax - 1) by omega), plS_id hD e a (by omega), if_pos a]
                exact ShM_c e m1 a (by omega) d g
              · rw [if_neg q1, if_pos (show (p - 1 ≤ i ∧ i < lnS S.2.2.2.1.1 ax - 1) by omega), plS_id hD e (by omega) (by omega), if_pos (by omega)]
                exact ShM_c e hkm (by omega) (by omega) d g
          · exact ⟨by rw [mE W3.2.1 (R := [(0, some 0)]) (by decide) (k := 0) (i := 0) (wHas_i (by decide)), z1.1]; exact z0, Q65_m W3.2.1 (by decide) z1.2⟩
        · rw [if_neg e3, w32e (x := j - 1) (by omega) (by omega), w32e (x := j + 1) (by omega) (by omega)]
          refine i_comeLine e Ww (by omega) (by omega) hk1.1 (by omega) (by omega) (by omega) (fun w2 W2 => ?_)
          refine ih (j + 1, w2) ⟨⟨by show p ≤ j + 1; omega, by show j + 1 ≤ _; omega⟩, W4_x W2 (fun i a c => ?_)⟩ (by show (lnS S.2.2.2.1.1 ax - (j + 1)).toNat < (lnS S.2.2.2.1.1 ax - j).toNat; omega)
          unfold upL
          dsimp only
          by_cases q1 : i = j - 1
          · rw [if_pos q1, if_pos (by omega), show i + 1 = j by omega]; exact ⟨rfl, fun _ _ _ => rfl⟩
          · rw [if_neg q1]
            by_cases q2 : p - 1 ≤ i ∧ i < j - 1
            · rw [if_pos q2, if_pos (by omega)]; exact ⟨rfl, fun _ _ _ => rfl⟩
            · rw [if_neg q2, if_neg (by omega)]; exact ⟨rfl, fun _ _ _ => rfl⟩
    · rw [show tb (1 ≤ p ∧ p ≤ lnS S.2.2.2.1.1 ax) = 0 by rw [tb, if_neg e1], if_pos rfl]
      rw [if_neg e1] at h; exact thr 2 (fun a b c => h _ a b c)
  · rw [show tb (0 ≤ ax ∧ ax ≤ 1) = 0 by rw [tb, if_neg (by omega)], if_pos rfl]
    rw [if_neg e] at h; exact thr 1 (fun a b c => h _ a b c)
