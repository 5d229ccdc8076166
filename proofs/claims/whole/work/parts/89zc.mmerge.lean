/-! ===== merge, pick: the reference ===== -/
abbrev freeP (S : SS) : Prop := S.2.2.1.2.2.1 = -1 ∧ pUns S ≤ 0
noncomputable def pMerge (x : Int) (S : SS) : Nat × Int × SS := if 0 ≤ x ∧ x ≤ 5 then (if S.2.2.1.1 x = -1 then (2, 0, S) else if S.2.2.1.2.2.2.2.1 = 200 then (3, 0, S) else if freeP S then (if bsP S.2.1.2.2.1 S.2.1.2.2.2 (S.2.2.1.1 x) (pHead S) = S.2.2.1.1 x then (0, -1, S) else if fitJ S.2.2.2.1.1 (S.2.1.2.1 (S.2.2.1.1 x)) (S.2.1.2.1 (bsP S.2.1.2.2.1 S.2.1.2.2.2 (S.2.2.1.1 x) (pHead S))) then (0, ((cfA S.2.2.2.1.1 (S.2.1.2.1 (S.2.2.1.1 x)) (S.2.1.2.1 (bsP S.2.1.2.2.1 S.2.1.2.2.2 (S.2.2.1.1 x) (pHead S)))).length : Int), setJ S (S.2.2.1.1 x) (S.2.1.2.1 (S.2.2.1.1 x)) (S.2.1.2.1 (bsP S.2.1.2.2.1 S.2.1.2.2.2 (S.2.2.1.1 x) (pHead S)))) else (4, 0, S)) else (4, 0, S)) else (1, 0, S)
noncomputable def pPick (v : Int) (S : SS) : Nat × Int × SS := if 1 ≤ v ∧ v < S.2.1.1 then (if S.2.2.1.2.2.2.2.1 = 200 then (2, 0, S) else if freeP S then (if fitJ S.2.2.2.1.1 (S.2.1.2.1 v) (S.2.1.2.1 (S.2.1.2.2.1 v)) then (0, ((cfA S.2.2.2.1.1 (S.2.1.2.1 v) (S.2.1.2.1 (S.2.1.2.2.1 v))).length : Int), setJ S S.2.2.1.2.2.1 (S.2.1.2.1 v) (S.2.1.2.1 (S.2.1.2.2.1 v))) else (3, 0, S)) else (3, 0, S)) else (1, 0, S)
theorem i_bars {u : Mu} {S : SS} {k : Int} {P : Int → Prop} (hB : Bd S) (hb : RMb u S.2.2.1) (hq : RMq u S.2.2.2.2) (k0 : 0 ≤ k ∧ k ≤ 10) (h : P (if S.2.2.1.2.2.2.2.1 = 200 then k else if freeP S then 0 else k + 1)) : F_X12_bars k u P := by
  have bm := hB.2.2.1.2.2
  unfold F_X12_bars F_X12_bars_26 F_X12_bars_33
  rw [hb.2.2.2.2.1]
  by_cases e : S.2.2.1.2.2.2.2.1 = 200
  · rw [if_pos e]; rw [if_pos e] at h; exact h
  · rw [if_neg e]; rw [if_neg e] at h
    rw [hb.2.2.1, w32e (x := k + 1) (by omega) (by omega)]
    by_cases e2 : S.2.2.1.2.2.1 = -1
    · rw [if_neg (by omega)]
      refine i_unsettled hB hq ?_
      by_cases e3 : pUns S ≤ 0
      · rw [if_pos e3]; rw [if_pos ⟨e2, e3⟩] at h; exact h
      · rw [if_neg e3]; rw [if_neg (fun g => e3 g.2)] at h; exact h
    · rw [if_pos (by omega)]; rw [if_neg (fun g => e2 g.1)] at h; exact h
theorem RM_J {u v : Mu} {N : Int} {S : SS} (hB : Bd S) (f : FrN u v) (R : RM u N S) : RM v N S := by
  obtain ⟨⟨n1, n2⟩, ht, hl, hb, hk, hq⟩ := R
  have g := FrN_g f n1.1
  have e19 := mE f.1 (R := rgC) (by decide) (k := 0) (i := 19) (wHas_i (by decide))
  have e24 := mE f.1 (R := rgC) (by decide) (k := 0) (i := 24) (wHas_i (by decide))
  have h40 := hB.2.1.1
  have hbd := hB.2.2.2.1
  refine ⟨by rw [e19, e24]; exact ⟨n1, n2⟩, RMt_fr f.1 (by decide) ht, RMl_fr f.1 (by decide) (fun k a c => (hB.2.1.2 k a c).1) g (fun k a c => f.2 k a (by have c' : k < S.2.1.1 := c; omega)) hl, RMb_fr f.1 (by decide) hb, ?_, RMq_fr f.1 (by decide) g hq⟩
  obtain ⟨k1, ⟨k2, k3, k4, k5⟩, k6, k7⟩ := hk
  have m0 : ∀ i, wHas [(0, some 15), (0, some 16), (0, some 17)] 0 i → mI v 0 i = mI u 0 i := fun i hi => mE f.1 (R := [(0, some 15), (0, some 16), (0, some 17)]) (by decide) hi
  refine ⟨ShM_s hbd.1 g (f.2 40 (by decide) (by decide)) k1, ⟨(m0 16 (wHas_i (by decide))).trans k2, (m0 17 (wHas_i (by decide))).trans k3, by rw [m0 15 (wHas_i (by decide))]; exact ⟨k4, k5⟩⟩, fun k a c => ?_, fun k a c => ?_⟩
  · rw [m0 15 (wHas_i (by decide))]
    exact ShM_s (hbd.2.2.1 k a c) g (f.2 _ (by omega) (by omega)) (k6 k a c)
  · have c' : k < S.2.2.2.1.2.2.2.1 := c
    exact ShM_s (hbd.2.2.2 k a c) g (f.2 _ (by omega) (by omega)) (k7 k a c)
def wMg : WR := [(0, some 0), (0, some 13), (0, some 14), (0, some 16), (0, some 17), (0, some 65), (89, none), (90, none), (99, none), (0, some 100), (1, none), (2, none), (3, none), (4, none), (5, none), (0, some 98), (91, none), (92, none), (93, none), (94, none), (95, none), (96, none), (97, none)]
theorem bsP_b {S : SS} (hB : Bd S) {v w : Int} (hv : 0 ≤ v ∧ v < S.2.1.1) (hw : 0 ≤ w ∧ w < S.2.1.1) : 0 ≤ bsP S.2.1.2.2.1 S.2.1.2.2.2 v w ∧ bsP S.2.1.2.2.1 S.2.1.2.2.2 v w < S.2.1.1 := by
  have key : ∀ (n : Nat), 0 ≤ topP (fun k => ancP S.2.1.2.2.1 S.2.1.2.2.2 41 v k ∧ ancP S.2.1.2.2.1 S.2.1.2.2.2 41 w k) n ∧ (topP (fun k => ancP S.2.1.2.2.1 S.2.1.2.2.2 41 v k ∧ ancP S.2.1.2.2.1 S.2.1.2.2.2 41 w k) n = 0 ∨ ancP S.2.1.2.2.1 S.2.1.2.2.2 41 v (topP (fun k => ancP S.2.1.2.2.1 S.2.1.2.2.2 41 v k ∧ ancP S.2.1.2.2.1 S.2.1.2.2.2 41 w k) n)) := by
    intro n
    induction n with
    | zero => exact ⟨by rw [topP]; omega, Or.inl (by rw [topP])⟩
    | succ n ih =>
      rw [topP]
      by_cases e : ancP S.2.1.2.2.1 S.2.1.2.2.2 41 v ((n : Int) + 1) ∧ ancP S.2.1.2.2.1 S.2.1.2.2.2 41 w ((n : Int) + 1)
      · rw [ci_1 (p := (fun k => ancP S.2.1.2.2.1 S.2.1.2.2.2 41 v k ∧ ancP S.2.1.2.2.1 S.2.1.2.2.2 41 w k) ((n : Int) + 1)) e]
        exact ⟨by omega, Or.inr e.1⟩
      · rw [ci_0 (p := (fun k => ancP S.2.1.2.2.1 S.2.1.2.2.2 41 v k ∧ ancP S.2.1.2.2.1 S.2.1.2.2.2 41 w k) ((n : Int) + 1)) e]
        exact ih
  have q := key 39
  have h40 := hB.2.1.1
  refine ⟨q.1, ?_⟩
  rcases q.2 with e | e
  · show topP _ 39 < _; omega
  · have := ancP_b 41 v _ (Bd_Dec hB hv.2) e
    show topP _ 39 < _; omega
theorem bsP_c (par oth : Int → Int) (v w : Int) : bsP par oth v w = bsP par oth w v := by
  unfold bsP
  have e : (fun k => ancP par oth 41 v k ∧ ancP par oth 41 w k) = fun k => ancP par oth 41 w k ∧ ancP par oth 41 v k := by
    funext k; exact propext ⟨fun g => ⟨g.2, g.1⟩, fun g => ⟨g.2, g.1⟩⟩
  rw [e]
theorem CoB_fr {L : WR} {u v : Mu} (f : FrM L u v) (hd : wDis L rgC = true) (B : CoB u) : CoB v := by
  unfold CoB
  rw [mE f (R := rgC) hd (k := 0) (i := 19) (wHas_i (by decide)), mE f (R := rgC) hd (k := 0) (i := 24) (wHas_i (by decide)), mE f (R := rgC) hd (k := 0) (i := 25) (wHas_i (by decide))]
  exact B
theorem i_merge {u : Mu} {N : Int} {S : SS} {x : Int} {P : Int → Mu → Prop} (hB : Bd S) (R : RM u N S) (B : CoB u) (jn : 0 ≤ S.2.2.1.2.2.2.2.1 ∧ S.2.2.1.2.2.2.2.1 ≤ 200) (dw : DsS S.2.2.2.1.1) (dv : ∀ k, 0 ≤ k → k < S.2.1.1 → DsS (S.2.1.2.1 k)) (h : ∀ v, RM v N (pMerge x S).2.2 → FrM wMg u v → (mI v 0 0 = ((pMerge x S).1 : Int) ∧ Q65 u v S (pMerge x S).2.2) → P (pMerge x S).2.1 v) : F_X12_merge x u P := by
  unfold F_X12_merge
  rintro _ rfl
  have R' := RM_thr (x := 0) hB R
  have f : FrM wMg u (uI u 0 0 0) := FrM_uI FrM_rf (wHas_i (by decide))
  have z0 : mI (uI u 0 0 0) 0 0 = 0 := by rw [mI_uI, if_pos ⟨rfl, rfl⟩]
  generalize hx : uI u 0 0 0 = y at R' f z0 ⊢
  obtain ⟨⟨n1, n2⟩, ht, hl, hb, hk, hq⟩ := id R'
  have y65 : mI y 0 65 = mI u 0 65 := by rw [← hx, mI_uI, if_neg (by omega)]
  have t3 : ∀ {k : Nat} {y' : Mu}, RM y' N S → FrM wMg u y' → mI y' 0 65 = mI u 0 65 → (∀ v, RM v N S → FrM wMg u v → (mI v 0 0 = (k : Int) ∧ Q65 u v S S) → P 0 v) → F_X12_throwing k y' (fun a b => P a b) := fun {k y'} Ry fy s65 h => i_throwing (h _ (RM_thr hB Ry) (FrM_uI fy (wHas_i (by decide))) ⟨by rw [mI_uI, if_pos ⟨rfl, rfl⟩], Or.inr ⟨by rw [mI_uI, if_neg (by omega)]; exact s65, rfl, rfl⟩⟩)
  unfold pMerge at h
  refine i_in ?_
  by_cases e : 0 ≤ x ∧ x ≤ 5
  rotate_left
  · rw [show tb (0 ≤ x ∧ x ≤ 5) = 0 by rw [tb, if_neg e], if_pos rfl]
    rw [if_neg e] at h
    exact t3 (k := 1) R' f y65 h
  rw [show tb (0 ≤ x ∧ x ≤ 5) = 1 by rw [tb, if_pos e], if_neg (by decide)]
  rw [if_pos e] at h
  refine ⟨e.1, by omega, ?_⟩
  have b1 := hB.2.2.1.1 x e.1 (by omega)
  rw [hb.1 x e.1 (by omega)]
  by_cases e2 : S.2.2.1.1 x = -1
  · rw [if_neg (by omega)]; rw [if_pos e2] at h; exact t3 (k := 2) R' f y65 h
  rw [if_pos (by omega)]; rw [if_neg e2] at h
  refine i_bars hB hb hq (by decide) ?_
  by_cases e3 : S.2.2.1.2.2.2.2.1 = 200
  · rw [if_pos e3, if_neg (by decide)]; rw [if_pos e3] at h
    refine i_bars hB hb hq (by decide) ?_
    rw [if_pos e3]; exact t3 (k := 3) R' f y65 h
  rw [if_neg e3]; rw [if_neg e3] at h
  by_cases e4 : freeP S
  rotate_left
  · rw [if_neg e4, if_neg (by decide)]; rw [if_neg e4] at h
    refine i_bars hB hb hq (by decide) ?_
    rw [if_neg e3, if_neg e4]; exact t3 (k := 4) R' f y65 h
  rw [if_pos e4, if_pos (by decide)]; rw [if_pos e4] at h
  have hh := hB.2.2.1.2.1
  have hh1 : pHead S < S.2.1.1 := (hB.2.2.1.1 _ hh.1 hh.2.1).2
  have hh0 : 0 ≤ pHead S := hh.2.2
  have h40 := hB.2.1.1
  refine i_headB hB hb (i_base hB R' (fun y2 R2 f2 z2 => ?_))
  have fy2 : FrM wMg u y2 := FrM_tr f (FrM_sub f2 (by decide))
  have eb : pBase (S.2.2.1.1 x) (pHead S) S = bsP S.2.1.2.2.1 S.2.1.2.2.2 (S.2.2.1.1 x) (pHead S) := by unfold pBase; rw [if_pos ⟨⟨by omega, by omega⟩, hh0, hh1⟩]
  rw [eb]
  have bsb := bsP_b hB (v := S.2.2.1.1 x) (w := pHead S) ⟨by omega, by omega⟩ ⟨hh0, hh1⟩
  generalize bsP S.2.1.2.2.1 S.2.1.2.2.2 (S.2.2.1.1 x) (pHead S) = cm at h bsb
  generalize hth : S.2.2.1.1 x = th at h b1 e2
  by_cases e5 : cm = th
  · rw [if_pos e5]; rw [if_pos e5] at h; exact h y2 R2 fy2 ⟨z2, Or.inr ⟨(e65 f2 (by decide)).trans y65, rfl, rfl⟩⟩
  rw [if_neg e5]; rw [if_neg e5] at h
  have By : CoB y2 := CoB_fr fy2 (by decide) B
  have l2 := R2.2.2.1.2
  refine i_together hB R2 By (hB.2.1.2 th (by omega) (by omega)).1 (hB.2.1.2 cm bsb.1 bsb.2).1 dw (dv th (by omega) (by omega)) (l2 th (by omega) (by omega)).1 (l2 cm bsb.1 bsb.2).1 (by omega) (by omega) (fun nf y3 f3 => ?_) (fun fit y3 R3 f3 s3 => ?_) ⟨jn.1, by omega⟩
  · rw [if_neg (by decide)]
    rw [if_neg nf] at h
    exact t3 (k := 4) (RM_J hB f3 R2) (FrM_tr fy2 (FrM_sub f3.1 (by decide))) ((e65 f3.1 (by decide)).trans ((e65 f2 (by decide)).trans y65)) h
  · rw [if_pos (by omega)]
    rw [if_pos fit] at h
    rintro _ rfl
    have f13 : FrM [(0, some 13)] y3 (uI y3 0 13 th) := FrM_uI FrM_rf (wHas_i (by decide))
    refine h _ ?_ (FrM_uI (FrM_tr fy2 (FrM_sub f3 (by decide))) (wHas_i (by decide))) ?_
    · obtain ⟨⟨m1, m2⟩, q1, q2, q3, q4, q5⟩ := R3
      have g := Grw_fr m1.1 f13 (by decide)
      have e19 := mE f13 (R := rgC) (by decide) (k := 0) (i := 19) (wHas_i (by decide))
      have e24 := mE f13 (R := rgC) (by decide) (k := 0) (i := 24) (wHas_i (by decide))
      refine ⟨by rw [e19, e24]; exact ⟨m1, m2⟩, RMt_fr f13 (by decide) q1, RMl_fr f13 (by decide) (fun k a c => (hB.2.1.2 k a c).1) g (fun k _ _ => SlM_fr f13 (by decide)) q2, ?_, ?_, RMq_fr f13 (by decide) g q5⟩
      · obtain ⟨g1, g2, g3, g4⟩ := q3
        unfold RMb
        simp only [mI_uI]
        refine ⟨fun k k0 k1 => ?_, by simp; exact g2, by rw [if_pos ⟨trivial, trivial⟩]; rfl, by simp; exact g4⟩
        rw [if_neg (by omega)]; exact g1 k k0 k1
      · refine RMk_fr f13 (by decide) (by decide) ?_ (fun k a c => absurd c (by show ¬ k < 0; omega)) (fun k a c => absurd c (by show ¬ k < 0; omega)) g q4
        exact ⟨⟨by show 1 ≤ ((joinL _ _ _ 0).length : Int); have := fit.1; omega, by show ((joinL _ _ _ 0).length : Int) ≤ 32; have := fit.1; omega⟩, by show 1 ≤ ((joinL _ _ _ 1).length : Int); have := fit.2; omega, by show ((joinL _ _ _ 1).length : Int) ≤ 10; have := fit.2; omega⟩
    · exact ⟨by rw [mI_uI, if_neg (by omega), mE f3 (R := [(0, some 0)]) (by decide) (wHas_i (by decide))]; exact z2, Or.inl (by rw [mI_uI, if_neg (by omega)]; exact s3)⟩
theorem i_pick {u : Mu} {N : Int} {S : SS} {x : Int} {P : Int → Mu → Prop} (hB : Bd S) (R : RM u N S) (B : CoB u) (jn : 0 ≤ S.2.2.1.2.2.2.2.1 ∧ S.2.2.1.2.2.2.2.1 ≤ 200) (dw : DsS S.2.2.2.1.1) (dv : ∀ k, 0 ≤ k → k < S.2.1.1 → DsS (S.2.1.2.1 k)) (h : ∀ v, RM v N (pPick x S).2.2 → FrM wMg u v → (mI v 0 0 = ((pPick x S).1 : Int) ∧ Q65 u v S (pPick x S).2.2) → P (pPick x S).2.1 v) : F_X12_pick x u P := by
  unfold F_X12_pick F_X12_pick_68
  rintro _ rfl
  have R' := RM_thr (x := 0) hB R
  have f : FrM wMg u (uI u 0 0 0) := FrM_uI FrM_rf (wHas_i (by decide))
  have z0 : mI (uI u 0 0 0) 0 0 = 0 := by rw [mI_uI, if_pos ⟨rfl, rfl⟩]
  generalize hx : uI u 0 0 0 = y at R' f z0 ⊢
  obtain ⟨⟨n1, n2⟩, ht, hl, hb, hk, hq⟩ := id R'
  have y65 : mI y 0 65 = mI u 0 65 := by rw [← hx, mI_uI, if_neg (by omega)]
  have t3 : ∀ {k : Nat} {y' : Mu}, RM y' N S → FrM wMg u y' → mI y' 0 65 = mI u 0 65 → (∀ v, RM v N S → FrM wMg u v → (mI v 0 0 = (k : Int) ∧ Q65 u v S S) → P 0 v) → F_X12_throwing k y' (fun a b => P a b) := fun {k y'} Ry fy s65 h => i_throwing (h _ (RM_thr hB Ry) (FrM_uI fy (wHas_i (by decide))) ⟨by rw [mI_uI, if_pos ⟨rfl, rfl⟩], Or.inr ⟨by rw [mI_uI, if_neg (by omega)]; exact s65, rfl, rfl⟩⟩)
  have h40 := hB.2.1.1
  unfold pPick at h
  rw [hl.1, w32e (x := S.2.1.1 - 1) (by omega) (by omega)]
  refine i_in ?_
  by_cases e : 1 ≤ x ∧ x < S.2.1.1
  rotate_left
  · rw [show tb (1 ≤ x ∧ x ≤ S.2.1.1 - 1) = 0 by rw [tb, if_neg (by omega)], if_pos rfl]
    rw [if_neg e] at h
    exact t3 (k := 1) R' f y65 h
  rw [show tb (1 ≤ x ∧ x ≤ S.2.1.1 - 1) = 1 by rw [tb, if_pos (by omega)], if_neg (by decide)]
  rw [if_pos e] at h
  refine i_bars hB hb hq (by decide) ?_
  by_cases e3 : S.2.2.1.2.2.2.2.1 = 200
  · rw [if_pos e3, if_neg (by decide)]; rw [if_pos e3] at h
    refine i_bars hB hb hq (by decide) ?_
    rw [if_pos e3]; exact t3 (k := 2) R' f y65 h
  rw [if_neg e3]; rw [if_neg e3] at h
  by_cases e4 : freeP S
  rotate_left
  · rw [if_neg e4, if_neg (by decide)]; rw [if_neg e4] at h
    refine i_bars hB hb hq (by decide) ?_
    rw [if_neg e3, if_neg e4]; exact t3 (k := 3) R' f y65 h
  rw [if_pos e4, if_pos (by decide)]; rw [if_pos e4] at h
  refine ⟨by omega, by omega, ?_⟩
  rw [(hl.2 x (by omega) e.2).2.1]
  obtain ⟨-, ⟨p1, p2, p3⟩, -⟩ := hB.2.1.2 x (by omega) e.2
  have p3' := p3 (by omega)
  generalize S.2.1.2.2.1 x = cm at h p1 p2 p3'
  have By : CoB y := CoB_fr f (by decide) B
  refine i_together hB R' By (hB.2.1.2 x (by omega) (by omega)).1 (hB.2.1.2 cm (by omega) (by omega)).1 dw (dv x (by omega) (by omega)) (hl.2 x (by omega) (by omega)).1 (hl.2 cm (by omega) (by omega)).1 (by omega) (by omega) (fun nf y3 f3 => ?_) (fun fit y3 R3 f3 s3 => ?_) ⟨jn.1, by omega⟩
  · rw [if_neg (by decide)]
    rw [if_neg nf] at h
    exact t3 (k := 3) (RM_J hB f3 R') (FrM_tr f (FrM_sub f3.1 (by decide))) ((e65 f3.1 (by decide)).trans y65) h
  · rw [if_pos (by omega)]
    rw [if_pos fit] at h
    refine h _ R3 (FrM_tr f (FrM_sub f3 (by decide))) ?_
    exact ⟨by rw [mE f3 (R := [(0, some 0)]) (by decide) (wHas_i (by decide))]; exact z0, Or.inl s3⟩
