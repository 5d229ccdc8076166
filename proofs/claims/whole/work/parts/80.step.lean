/-! ===== show, step, drop, sheet ===== -/
theorem o_at {z : Z} {b : Nat → Nat} {I : Nat → Prop} {l : SL2} {k : Int} {P : Option Nat → Prop} (c : CWz z b) (hl : RCl z b I l) (h : P (if 0 ≤ k ∧ k < l.1 then zO z (b 18) k else none)) : F_X2_at (b 3) k z P := by
  unfold F_X2_at F_X2_at_21 F_X2_at_22
  by_cases e : k < 0
  · rw [if_pos e]; rw [if_neg (by omega)] at h; exact h
  · rw [if_neg e]
    refine ⟨cK c 3 rfl rfl, ?_⟩
    have h40 := hl.1.2
    rw [hl.1.1]
    by_cases e2 : l.1 ≤ k
    · rw [if_pos e2]; rw [if_neg (by omega)] at h; exact h
    · rw [if_neg e2]; rw [if_pos (by omega)] at h
      exact ⟨b 18, cO c 3 0 18 (by decide), cK c 18 rfl rfl, by omega, by rw [cN c 18 (c := 40) rfl rfl]; omega, h⟩
/-- another working sheet -/
def setW (S : SS) (s : Sh) : SS := (S.1, S.2.1, S.2.2.1, (s, S.2.2.2.1.2), S.2.2.2.2)
theorem o_show {z : Z} {b : Nat → Nat} {I : Nat → Prop} {S : SS} {q : Nat} {s : Sh} {P : Z → Prop} (R : RC z b I S) (hq : ShC z I q s) (h : ∀ y, FrZ (WL z b [(0, some 11)] (wkT z b) no1) z y → (zO y (b 0) 11 = some q ∧ WkS z y b (fun a => a = q)) → RC y b I (setW S s) → P y) : F_X11_show (b 0) (some q) z P := by
  obtain ⟨c, r, ht, hl, hb, hk, hc⟩ := id R
  obtain ⟨⟨wa, hw, sw⟩, hd, h32, h33⟩ := hk
  have k7 := ShC_7 sw
  unfold F_X11_show
  refine ⟨cK c 0 rfl rfl, wa, hw, k7, ?_⟩
  rintro _ rfl _ rfl
  have f : FrZ (WL z b [(0, some 11)] (wkT z b) no1) z (wO (wO z wa 3 none) (b 0) 11 (some q)) := FrZ_wO (FrZ_wO FrZ_rf (Or.inl (Or.inr (Or.inl ⟨hw, k7, rfl⟩)))) (Or.inl (WL_i (by decide) (by decide)))
  have sf : ∀ r s, ShO z I r s → ShO _ I r s := fun _ _ q => ShO_fr f (WL_I r) (WL_7 c) q
  have ws : WkS z (wO (wO z wa 3 none) (b 0) 11 (some q)) b (fun a => a = q) := by
    refine ⟨fun a ha => ?_, fun a ha => ?_⟩
    · unfold LvA at ha
      rw [zO_wO, if_pos ⟨rfl, rfl⟩] at ha
      simp only [zI_wO] at ha
      rcases ha with ha | ⟨k, k0, k1, ha⟩ | ⟨k, k0, k1, ha⟩
      · exact Or.inl (by injection ha with ha; exact ha.symm)
      · rw [(bI c f (R := [(32, none)]) (by decide) (k := 32) (by decide) (i := k) (wHas_a (by decide))).2.2] at ha
        exact Or.inr (Or.inr (Or.inl ⟨k, k0, k1, ha⟩))
      · rw [(bI c f (R := [(33, none)]) (by decide) (k := 33) (by decide) (i := k) (wHas_a (by decide))).2.2] at ha
        exact Or.inr (Or.inr (Or.inr ⟨k, k0, k1, ha⟩))
    · rw [hw] at ha; cases ha
      rw [zO_wO, if_neg (fun w => neS c k7 (k := 0) (by decide) w.1), zO_wO, if_pos ⟨rfl, rfl⟩]
  refine h _ f ⟨by rw [zO_wO, if_pos ⟨rfl, rfl⟩], ws⟩ ⟨CWz_fr c f (by decide), Frz_fr r f, RCt_fr c f (by decide) ht, RCl_fr c r f (by decide) hl, RCb_fr c f (by decide) hb, ?_, RCq_fr c r f (by decide) hc⟩
  refine ⟨by rw [zO_wO, if_pos ⟨rfl, rfl⟩]; exact sf _ _ ⟨q, rfl, hq⟩, hd, fun k k0 k1 => ?_, fun k k0 k1 => ?_⟩
  · rw [(bI c f (R := [(32, none)]) (by decide) (k := 32) (by decide) (i := k) (wHas_a (by decide))).2.2]; exact sf _ _ (h32 k k0 k1)
  · rw [(bI c f (R := [(33, none)]) (by decide) (k := 33) (by decide) (i := k) (wHas_a (by decide))).2.2]; exact sf _ _ (h33 k k0 k1)
/-- the steps behind one more -/
def pStep0 (S : SS) : SS := (S.1, S.2.1, S.2.2.1, (if S.2.2.2.1.2.1 < 40 then (S.2.2.2.1.1, S.2.2.2.1.2.1 + 1, (fun k => if k = S.2.2.2.1.2.1 then S.2.2.2.1.1 else S.2.2.2.1.2.2.1 k), 0, S.2.2.2.1.2.2.2.2) else (S.2.2.2.1.1, 40, (fun k => if k = 39 then S.2.2.2.1.1 else S.2.2.2.1.2.2.1 (k + 1)), 0, S.2.2.2.1.2.2.2.2)), S.2.2.2.2)
def wAd : WR := [(6, some 2), (6, some 3), (32, none)]
theorem o_add48 {z : Z} {b : Nat → Nat} {I : Nat → Prop} {d : Int} {w : Sh} {D : Int → Sh} {wo : Option Nat} {P : Z → Prop} (c : CWz z b) (r : Frz z b I) (hw : ShO z I wo w) (hd : zI z (b 6) 2 = d) (h3 : zI z (b 6) 3 = 0) (d0 : 0 ≤ d) (d1 : d < 40) (hD : ∀ k, 0 ≤ k → k < d → ShO z I (zO z (b 32) k) (D k)) (h : ∀ y, FrZ (WL z b wAd no1 no1) z y → zI y (b 6) 2 = d + 1 → zI y (b 6) 3 = 0 → (∀ k, 0 ≤ k → k < d + 1 → ShO y I (zO y (b 32) k) (if k = d then w else D k)) → (∀ k, zO y (b 32) k = if k = d then wo else zO z (b 32) k) → P y) : F_X7_add_48 (b 6) wo z P := by
  obtain ⟨wa, rfl, sw⟩ := hw
  unfold F_X7_add_48
  refine ⟨cK c 6 rfl rfl, b 32, cO c 6 0 32 (by decide), cK c 32 rfl rfl, ?_⟩
  rw [hd]
  refine ⟨d0, by rw [cN c 32 (c := 40) rfl rfl]; exact d1, fun v hv => by cases hv; exact ShC_7 sw, ?_⟩
  rintro _ rfl _ rfl
  rw [zI_wO, hd, w32e (by omega) (by omega)]
  have f : FrZ (WL z b wAd no1 no1) z (wI (wO z (b 32) d (some wa)) (b 6) 2 (d + 1)) := FrZ_wI (FrZ_wO FrZ_rf (Or.inl (WL_a (by decide) (by decide)))) (Or.inl (WL_i (by decide) (by decide)))
  have sf : ∀ r s, ShO z I r s → ShO _ I r s := fun _ _ q => ShO_fr f (WL_I r) (WL_7 c) q
  refine h _ f (by rw [zI_wI, if_pos ⟨rfl, rfl⟩]) (by rw [zI_wI, if_neg (by omega), zI_wO]; exact h3) (fun k k0 k1 => ?_) (fun k => by
    rw [zO_wI, zO_wO]
    by_cases ck : k = d
    · rw [if_pos ⟨rfl, ck⟩, if_pos ck]
    · rw [if_neg (fun w => ck w.2), if_neg ck])
  rw [zO_wI, zO_wO]
  by_cases ck : k = d
  · rw [if_pos ⟨rfl, ck⟩, if_pos ck]; exact sf _ _ ⟨wa, rfl, sw⟩
  · rw [if_neg (fun w => ck w.2), if_neg ck]; exact sf _ _ (hD k k0 (by omega))
theorem o_step {z : Z} {b : Nat → Nat} {I : Nat → Prop} {S : SS} {q : Nat} {s : Sh} {P : Z → Prop} (R : RC z b I S) (hq : ShC z I q s) (h : ∀ y, FrZ (WL z b wSt (wkT z b) no1) z y → (zO y (b 0) 11 = some q ∧ WkS z y b (fun a => a = q)) → RC y b I (setW (pStep0 S) s) → P y) : F_X11_step (b 0) (some q) z P := by
  obtain ⟨c, r, ht, hl, hb, hk, hc⟩ := id R
  obtain ⟨hw, ⟨d1, d2, d3, d4, d5⟩, h32, h33⟩ := hk
  unfold F_X11_step
  refine ⟨cK c 0 rfl rfl, b 6, cO c 0 5 6 (by decide), cK c 6 rfl rfl, ?_⟩
  have fin : ∀ y, FrZ (WL z b wAd no1 no1) z y → zI y (b 6) 2 = (pStep0 S).2.2.2.1.2.1 → zI y (b 6) 3 = 0 → (∀ k, 0 ≤ k → k < (pStep0 S).2.2.2.1.2.1 → ShO y I (zO y (b 32) k) ((pStep0 S).2.2.2.1.2.2.1 k)) → (∀ k, 0 ≤ k → k < (pStep0 S).2.2.2.1.2.1 → zO y (b 32) k = zO z (b 0) 11 ∨ ∃ j, 0 ≤ j ∧ j < S.2.2.2.1.2.1 ∧ zO y (b 32) k = zO z (b 32) j) → zK y (b 0) = 12 ∧ F_X11_show (b 0) (some q) y (fun z_13 => P z_13) := by
    intro y f e2 e3 eD hL
    have cy := CWz_fr c f (by decide)
    refine ⟨cK cy 0 rfl rfl, ?_⟩
    have sf : ∀ r s, ShO z I r s → ShO y I r s := fun _ _ q => ShO_fr f (WL_I r) (WL_7 c) q
    have e11 : zO y (b 0) 11 = zO z (b 0) 11 := (bI c f (R := [(0, some 11)]) (by decide) (k := 0) (by decide) (i := 11) (wHas_i (by decide))).2.2
    have h0 : (pStep0 S).2.2.2.1.1 = S.2.2.2.1.1 := by unfold pStep0; dsimp only; split <;> rfl
    have h1 : (pStep0 S).2.2.2.1.2.2.2.1 = 0 := by unfold pStep0; dsimp only; split <;> rfl
    have h2 : 0 ≤ (pStep0 S).2.2.2.1.2.1 ∧ (pStep0 S).2.2.2.1.2.1 ≤ 40 := by
      unfold pStep0; dsimp only; split
      · dsimp only; omega
      · dsimp only; omega
    have Ry : RC y b I (pStep0 S) := by
      refine ⟨cy, Frz_fr r f, RCt_fr c f (by decide) ht, RCl_fr c r f (by decide) hl, RCb_fr c f (by decide) hb, ⟨?_, ⟨e2, by rw [h1]; exact e3, h2.1, by rw [h1]; omega, by rw [h1]; omega⟩, eD, fun k k0 k1 => absurd k1 (by rw [h1]; omega)⟩, RCq_fr c r f (by decide) hc⟩
      rw [e11, h0]; exact sf _ _ hw
    have hq' : ShC y I q s := ShC_fr f (WL_I r) (WL_7 c) hq
    refine o_show Ry hq' (fun w fw ew Rw => ?_)
    have ws : WkS z w b (fun a => a = q) := by
      refine ⟨fun a ha => ?_, fun a ha => ew.2.2 a (by rw [e11]; exact ha)⟩
      rcases ew.2.1 a ha with g | g | ⟨k, k0, k1, g⟩ | ⟨k, k0, k1, g⟩
      · exact Or.inl g
      · exact Or.inr (Or.inl (by rw [← e11]; exact g))
      · rw [e2] at k1
        rcases hL k k0 k1 with o | ⟨j, j0, j1, o⟩
        · exact Or.inr (Or.inl (by rw [← o]; exact g))
        · exact Or.inr (Or.inr (Or.inl ⟨j, j0, by rw [d1]; exact j1, by rw [← o]; exact g⟩))
      · rw [e3] at k1; omega
    refine h w ?_ ⟨ew.1, ws⟩ Rw
    have fa : FrZ (WL z b wSt (wkT z b) no1) z y := FrZ_mono f (fun a i ha w => by
      rcases w with ⟨t, t1, t2, t3⟩ | w | w
      · exact Or.inl ⟨t, (show ∀ t ∈ wAd, t ∈ wSt by decide) t t1, t2, t3⟩
      · exact absurd w.1 id
      · exact absurd w.1 id)
    refine FrZ_wl fa (FrZ_mono fw (fun a i ha w => ?_))
    rcases w with ⟨t, t1, t2, t3⟩ | w | w
    · exact Or.inl ⟨t, (show ∀ t ∈ [((0 : Nat), some (11 : Int))], t ∈ wSt by decide) t t1, t2, t3⟩
    · refine Or.inr (Or.inl ⟨?_, w.2⟩)
      show zO z (b 0) 11 = some a
      rw [← e11]; exact w.1
    · exact absurd w.1 id
  unfold F_X7_add
  refine ⟨cK c 6 rfl rfl, ?_⟩
  rintro _ rfl
  have f1 : FrZ (WL z b wAd no1 no1) z (wI z (b 6) 3 0) := FrZ_wI FrZ_rf (Or.inl (WL_i (by decide) (by decide)))
  have c1 := CWz_fr c f1 (by decide)
  have r1 := Frz_fr r f1
  have sf1 : ∀ r s, ShO z I r s → ShO (wI z (b 6) 3 0) I r s := fun _ _ q => ShO_fr f1 (WL_I r) (WL_7 c) q
  rw [show zI (wI z (b 6) 3 0) (b 6) 2 = S.2.2.2.1.2.1 by rw [zI_wI, if_neg (by omega)]; exact d1]
  by_cases e : S.2.2.2.1.2.1 < 40
  · rw [if_pos e]
    refine o_add48 c1 r1 (sf1 _ _ hw) (by rw [zI_wI, if_neg (by omega)]; exact d1) (by rw [zI_wI, if_pos ⟨rfl, rfl⟩]) d3 e (fun k k0 k1 => sf1 _ _ (h32 k k0 k1)) (fun y f2 e2 e3 eD eL => fin y (FrZ_wl f1 f2) ?_ e3 ?_ ?_)
    · rw [e2]; unfold pStep0; dsimp only; rw [if_pos e]
    · intro k k0 k1
      unfold pStep0 at k1 ⊢
      dsimp only at k1 ⊢
      rw [if_pos e] at k1 ⊢
      exact eD k k0 k1
    · intro k k0 k1
      unfold pStep0 at k1
      dsimp only at k1
      rw [if_pos e] at k1
      dsimp only at k1
      rw [eL k]
      by_cases ck : k = S.2.2.2.1.2.1
      · rw [if_pos ck]; exact Or.inl rfl
      · rw [if_neg ck, zO_wI]; exact Or.inr ⟨k, k0, by omega, rfl⟩
  · rw [if_neg e]
    have e40 : S.2.2.2.1.2.1 = 40 := by omega
    unfold F_X7_add_16
    refine lp_I (fun q => 1 ≤ q.1 ∧ q.1 ≤ 40 ∧ FrZ (WL z b wAd no1 no1) z q.2 ∧ zI q.2 (b 6) 3 = 0 ∧ (∀ k, 0 ≤ k → k < q.1 - 1 → zO q.2 (b 32) k = zO z (b 32) (k + 1)) ∧ ∀ k, q.1 - 1 ≤ k → zO q.2 (b 32) k = zO z (b 32) k) (fun q => (40 - q.1).toNat) ?_ (1, _) ⟨by show (1 : Int) ≤ 1; decide, by show (1 : Int) ≤ 40; decide, f1, by show zI (wI z (b 6) 3 0) (b 6) 3 = 0; rw [zI_wI, if_pos ⟨rfl, rfl⟩], fun k k0 k1 => absurd k1 (by show ¬ k < 1 - 1; omega), fun k _ => rfl⟩
    rintro G ⟨j, y⟩ ⟨j0, j1, fy, y3, ya, yb⟩ ih
    simp only at j0 j1 fy y3 ya yb
    have cy := CWz_fr c fy (by decide)
    have sf : ∀ r s, ShO z I r s → ShO y I r s := fun _ _ q => ShO_fr fy (WL_I r) (WL_7 c) q
    unfold L_X7_add_16
    dsimp only
    by_cases ej : 40 ≤ j
    · rw [if_pos ej]
      have ej : j = 40 := by omega
      subst ej
      refine ⟨cK cy 6 rfl rfl, ?_⟩
      rintro _ rfl
      have f2 : FrZ (WL y b wAd no1 no1) y (wI y (b 6) 2 39) := FrZ_wI FrZ_rf (Or.inl (WL_i (by decide) (by decide)))
      have c2 := CWz_fr cy f2 (by decide)
      have ry := Frz_fr r fy
      have sf2 : ∀ r s, ShO z I r s → ShO (wI y (b 6) 2 39) I r s := fun _ _ q => ShO_fr f2 (WL_I ry) (WL_7 cy) (sf _ _ q)
      refine o_add48 (d := 39) (D := fun k => S.2.2.2.1.2.2.1 (k + 1)) c2 (Frz_fr ry f2) (sf2 _ _ hw) (by rw [zI_wI, if_pos ⟨rfl, rfl⟩]) (by rw [zI_wI, if_neg (by omega)]; exact y3) (by decide) (by decide) (fun k k0 k1 => ?_) (fun y' f3 e2 e3 eD eL => fin y' (FrZ_wl fy (FrZ_wl f2 f3)) ?_ e3 ?_ ?_)
      · rw [zO_wI, ya k k0 (by omega)]; exact sf2 _ _ (h32 (k + 1) (by omega) (by omega))
      · rw [e2]; unfold pStep0; dsimp only; rw [if_neg e]; rfl
      · intro k k0 k1
        unfold pStep0 at k1 ⊢
        dsimp only at k1 ⊢
        rw [if_neg e] at k1 ⊢
        exact eD k k0 k1
      · intro k k0 k1
        unfold pStep0 at k1
        dsimp only at k1
        rw [if_neg e] at k1
        dsimp only at k1
        rw [eL k]
        by_cases ck : k = 39
        · rw [if_pos ck]; exact Or.inl rfl
        · rw [if_neg ck, zO_wI, ya k k0 (by omega)]; exact Or.inr ⟨k + 1, by omega, by omega, rfl⟩
    · rw [if_neg ej]
      refine ⟨cK cy 6 rfl rfl, b 32, cO cy 6 0 32 (by decide), cK cy 32 rfl rfl, by omega, by rw [cN cy 32 (c := 40) rfl rfl]; omega, ?_⟩
      rw [w32e (x := j - 1) (by omega) (by omega), w32e (x := j + 1) (by omega) (by omega), yb j (by omega)]
      refine ⟨by omega, by rw [cN cy 32 (c := 40) rfl rfl]; omega, fun v hv => ?_, ?_⟩
      · obtain ⟨a, ha, sa⟩ := sf _ _ (h32 j (by omega) (by omega))
        rw [hv] at ha; cases ha; exact ShC_7 sa
      · rintro _ rfl
        refine ih (j + 1, _) ⟨by show 1 ≤ j + 1; omega, by show j + 1 ≤ 40; omega, FrZ_wO fy (Or.inl (WL_a (by decide) (by decide))), by show zI (wO y _ _ _) _ _ = 0; rw [zI_wO]; exact y3, fun k k0 k1 => ?_, fun k k0 => ?_⟩ (by show (40 - (j + 1)).toNat < (40 - j).toNat; omega)
        · replace k1 : k < j + 1 - 1 := k1
          show zO (wO y _ _ _) _ _ = _
          rw [zO_wO]
          by_cases ck : k = j - 1
          · rw [if_pos ⟨rfl, ck⟩, show k + 1 = j by omega]
          · rw [if_neg (fun w => ck w.2)]; exact ya k k0 (by omega)
        · replace k0 : j + 1 - 1 ≤ k := k0
          show zO (wO y _ _ _) _ _ = _
          rw [zO_wO, if_neg (by omega)]; exact yb k (by omega)
theorem i_step {u : Mu} {N : Int} {S : SS} {P : Int → Mu → Prop} (hB : Bd S) (R : RM u N S) (h : ∀ v s, RM v N (pStep0 S) → FrM wUm u v → (mI v 0 0 = mI u 0 0 ∧ mI v 0 65 = 0) → (41 ≤ s ∧ s ≤ 80) → ShM v s S.2.2.2.1.1 → P s v) : F_X12_step u P := by
  obtain ⟨⟨n1, n2⟩, ht, hl, hb, hk, hq⟩ := id R
  obtain ⟨hw, ⟨d1, d2, d3, d4⟩, hd, hu⟩ := hk
  obtain ⟨bw, ⟨b1, b2, b3⟩, bd, bu⟩ := hB.2.2.2.1
  have fin : ∀ (v : Mu) (f : Int), FrM wUm u v → mI v 0 0 = mI u 0 0 → (∀ s, SlM u v s s) → (0 ≤ f ∧ f < 40) → mI v 0 15 = f → mI v 0 16 = (pStep0 S).2.2.2.1.2.1 → (∀ k, 0 ≤ k → k < (pStep0 S).2.2.2.1.2.1 - 1 → ShM u (41 + (f + k) % 40) ((pStep0 S).2.2.2.1.2.2.1 k)) → F_X12_step_35 v P := by
    intro v f fr z0 sl f0 e15 e16 hD
    have h0 : (pStep0 S).2.2.2.1.1 = S.2.2.2.1.1 := by unfold pStep0; dsimp only; split <;> rfl
    have h1 : (pStep0 S).2.2.2.1.2.2.2.1 = 0 := by unfold pStep0; dsimp only; split <;> rfl
    have h2 : 1 ≤ (pStep0 S).2.2.2.1.2.1 ∧ (pStep0 S).2.2.2.1.2.1 ≤ 40 := by
      unfold pStep0; dsimp only; split
      · dsimp only; omega
      · dsimp only; omega
    have h3 : (pStep0 S).2.2.2.1.2.2.1 ((pStep0 S).2.2.2.1.2.1 - 1) = S.2.2.2.1.1 := by
      unfold pStep0; dsimp only; split
      · dsimp only; rw [if_pos (by omega)]
      · dsimp only; rw [if_pos (by omega)]
    have hbd : ∀ k, 0 ≤ k → k < (pStep0 S).2.2.2.1.2.1 → ShB ((pStep0 S).2.2.2.1.2.2.1 k) := by
      unfold pStep0; dsimp only; split
      · intro k k0 k1
        dsimp only at k1 ⊢
        split
        · exact bw
        · exact bd k k0 (by omega)
      · intro k k0 k1
        dsimp only at k1 ⊢
        split
        · exact bw
        · exact bd (k + 1) (by omega) (by omega)
    generalize hn : (pStep0 S).2.2.2.1.2.1 = n at *
    generalize hF : (pStep0 S).2.2.2.1.2.2.1 = F at *
    unfold F_X12_step_35
    rintro _ rfl
    rw [mI_uI, if_neg (by omega), e16, w32e (x := n - 1) (by omega) (by omega)]
    have q15 : mI (uI v 0 17 0) 0 15 = f := by rw [mI_uI, if_neg (by omega)]; exact e15
    refine i_stepAt (by omega) (by omega) (by omega) (by omega) ?_
    rw [q15]
    refine i_copySheet (by omega) (by omega) (by omega) (by omega) ?_
    rintro _ rfl
    generalize hx : uI (cpF (uI v 0 17 0) 40 (41 + (f + (n - 1)) % 40)) 0 65 0 = x
    have fx : FrM wUm u x := by rw [← hx]; exact FrM_uI (FrM_cpF (FrM_uI fr (wHas_i (by decide))) (by decide) (by decide)) (wHas_i (by decide))
    have g := Grw_fr n1.1 fx (by decide)
    have e19 := mE fx (R := rgC) (by decide) (k := 0) (i := 19) (wHas_i (by decide))
    have e24 := mE fx (R := rgC) (by decide) (k := 0) (i := 24) (wHas_i (by decide))
    have s1 : ∀ s, s ≠ 41 + (f + (n - 1)) % 40 → SlM u x s s := fun s hs => by rw [← hx]; exact SlM_65 (SlM_tr (SlM_65 (sl s)) (SlM_fo hs))
    have s2 : SlM u x 40 (41 + (f + (n - 1)) % 40) := by rw [← hx]; exact SlM_65 (SlM_tr (SlM_65 (sl 40)) SlM_f)
    have p : ∀ i, i ≠ 65 → i ≠ 17 → mI x 0 i = mI v 0 i := fun i h1 h2 => by rw [← hx, mI_uI, if_neg (by omega), mF0 (Or.inl rfl) (by omega), mI_uI, if_neg (by omega)]
    have p17 : mI x 0 17 = 0 := by rw [← hx, mI_uI, if_neg (by omega), mF0 (Or.inl rfl) (by omega), mI_uI, if_pos ⟨rfl, rfl⟩]
    refine h x _ ⟨by rw [e19, e24]; exact ⟨n1, n2⟩, RMt_fr fx (by decide) ht, RMl_fr fx (by decide) (fun k a c => (hB.2.1.2 k a c).1) g (fun k a c => (by have c' : k < S.2.1.1 := c; have := hB.2.1.1; exact s1 k (by omega))) hl, RMb_fr fx (by decide) hb, ?_, RMq_fr fx (by decide) g hq⟩ fx ⟨by rw [p 0 (by decide) (by decide)]; exact z0, by rw [← hx, mI_uI, if_pos ⟨rfl, rfl⟩]⟩ (by omega) (ShM_s bw g s2 hw)
    refine ⟨by rw [h0]; exact ShM_s bw g (s1 40 (by omega)) hw, ⟨by rw [hn, p 16 (by decide) (by decide)]; exact e16, by rw [h1]; exact p17, by rw [p 15 (by decide) (by decide), e15]; exact f0⟩, fun k k0 k1 => ?_, fun k k0 k1 => absurd k1 (by rw [h1]; omega)⟩
    rw [hn] at k1
    rw [hF, p 15 (by decide) (by decide), e15]
    by_cases ck : k = n - 1
    · rw [ck, h3]; exact ShM_s bw g s2 hw
    · exact ShM_s (hbd k k0 k1) g (s1 _ (by omega)) (hD k k0 (by omega))
  unfold F_X12_step
  rw [d1]
  by_cases e : S.2.2.2.1.2.1 = 40
  · rw [if_pos e]
    rintro _ rfl
    rw [w32e (x := mI u 0 15 + 1) (by omega) (by omega), tmodE (by omega), w32e (by omega) (by omega)]
    refine fin _ ((mI u 0 15 + 1) % 40) (FrM_uI FrM_rf (wHas_i (by decide))) (by rw [mI_uI, if_neg (by omega)]) (fun s => SlM_65 (SlM_fr (L := []) FrM_rf (by decide))) (by omega) (by rw [mI_uI, if_pos ⟨rfl, rfl⟩]) (by rw [mI_uI, if_neg (by omega), d1]; unfold pStep0; dsimp only; rw [if_neg (by omega)]; exact e) (fun k k0 k1 => ?_)
    unfold pStep0 at k1 ⊢
    dsimp only at k1 ⊢
    rw [if_neg (by omega)] at k1 ⊢
    dsimp only at k1 ⊢
    rw [if_neg (by omega)]
    have q := hd (k + 1) (by omega) (by omega)
    rw [show (mI u 0 15 + 1) % 40 + k = (mI u 0 15 + 1) % 40 + k by rfl]
    rw [show ((mI u 0 15 + 1) % 40 + k) % 40 = (mI u 0 15 + (k + 1)) % 40 by omega]
    exact q
  · rw [if_neg e]
    rintro _ rfl
    rw [w32e (by omega) (by omega)]
    refine fin _ (mI u 0 15) (FrM_uI FrM_rf (wHas_i (by decide))) (by rw [mI_uI, if_neg (by omega)]) (fun s => SlM_65 (SlM_fr (L := []) FrM_rf (by decide))) ⟨d3, d4⟩ (by rw [mI_uI, if_neg (by omega)]) (by rw [mI_uI, if_pos ⟨rfl, rfl⟩]; unfold pStep0; dsimp only; rw [if_pos (by omega)]) (fun k k0 k1 => ?_)
    unfold pStep0 at k1 ⊢
    dsimp only at k1 ⊢
    rw [if_pos (by omega)] at k1 ⊢
    dsimp only at k1 ⊢
    rw [if_neg (by omega)]
    exact hd k k0 (by omega)
