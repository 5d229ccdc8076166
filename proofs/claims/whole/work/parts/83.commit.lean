/-! ===== commit ===== -/
theorem WL_q {z : Z} {b : Nat → Nat} {L : WR} {q : Nat} {i : Int} (c : CWz z b) (h : zK z q = 7) : ¬ WL z b L no1 no1 q i := by
  rintro (⟨t, h1, h2, h3, h4⟩ | ⟨h1, -⟩ | ⟨h1, -⟩)
  · exact neS c h h2 h3
  · exact h1
  · exact h1
theorem ancB_n (par oth : Int → Int) (f : Nat) {v : Int} (h : v < 0) : ancB par oth f v = 0 := by
  cases f with
  | zero => rfl
  | succ n => rw [ancB, if_pos h]
theorem ancB_c {par oth par' oth' : Int → Int} : ∀ (f f' : Nat) (v : Int), v < f → v < f' → (∀ j, 0 ≤ j → j ≤ v → (par j = par' j ∧ oth j = oth' j) ∧ par j < j ∧ oth j < j) → ancB par oth f v = ancB par' oth' f' v
  | 0, f', v, h1, _, _ => by rw [ancB_n _ _ _ (by omega), ancB_n _ _ _ (by omega)]
  | f + 1, 0, v, _, h2, _ => by rw [ancB_n _ _ _ (by omega), ancB_n _ _ _ (by omega)]
  | f + 1, f' + 1, v, h1, h2, h => by
    by_cases e : v < 0
    · rw [ancB_n _ _ _ e, ancB_n _ _ _ e]
    · obtain ⟨⟨g1, g2⟩, g3, g4⟩ := h v (by omega) (by omega)
      rw [ancB, ancB, if_neg e, if_neg e, ← g1, ← g2, ancB_c f f' (par v) (by omega) (by omega) (fun j a c => h j a (by omega)), ancB_c f f' (oth v) (by omega) (by omega) (fun j a c => h j a (by omega))]
def addL (l : SL2) (s : Sh) (p o : Int) : SL2 := (l.1 + 1, (fun k => if k = l.1 then s else l.2.1 k), (fun k => if k = l.1 then p else l.2.2.1 k), fun k => if k = l.1 then o else l.2.2.2 k)
theorem o_ancestorsOf {z : Z} {b : Nat → Nat} {v n : Int} {P : Int → Prop} (c : CWz z b) (hn : zI z (b 3) 4 = n) (h40 : n ≤ 40) (h : P (if 0 ≤ v ∧ v < n then zG z (b 21) v else 0)) : F_X2_ancestorsOf (b 3) v z P := by
  unfold F_X2_ancestorsOf F_X2_ancestorsOf_21 F_X2_ancestorsOf_22
  by_cases e : v < 0
  · rw [if_pos e]; rw [if_neg (by omega)] at h; exact h
  · rw [if_neg e]
    refine ⟨cK c 3 rfl rfl, ?_⟩
    rw [hn]
    by_cases e2 : n ≤ v
    · rw [if_pos e2]; rw [if_neg (by omega)] at h; exact h
    · rw [if_neg e2]; rw [if_pos (by omega)] at h
      exact ⟨b 21, cO c 3 3 21 (by decide), cK c 21 rfl rfl, by omega, by rw [cN c 21 (c := 40) rfl rfl]; omega, h⟩
def wLg : WR := [(3, some 4), (18, none), (19, none), (20, none), (21, none)]
theorem o_logadd {z : Z} {b : Nat → Nat} {I : Nat → Prop} {l : SL2} {q : Nat} {s : Sh} {p o : Int} {P : Int → Z → Prop} (c : CWz z b) (r : Frz z b I) (hl : RCl z b I l) (hq : ShC z I q s) (h40 : l.1 < 40) (p0 : 0 ≤ p) (p1 : p < l.1) (o0 : -1 ≤ o) (o1 : o < l.1) (h : ∀ y, FrZ (WL z b wLg no1 no1) z y → (zO y (b 18) l.1 = some q ∧ ∀ k, k ≠ l.1 → zO y (b 18) k = zO z (b 18) k) → RCl y b I (addL l s p o) → P l.1 y) : F_X2_add (b 3) (some q) p o z P := by
  obtain ⟨⟨h1, h2⟩, h3⟩ := hl
  have n18 : b 3 ≠ b 18 := cNe c rfl rfl rfl
  have n19 : b 3 ≠ b 19 := cNe c rfl rfl rfl
  have n20 : b 3 ≠ b 20 := cNe c rfl rfl rfl
  have n21 : b 3 ≠ b 21 := cNe c rfl rfl rfl
  have n89 : b 18 ≠ b 19 := cNe c rfl rfl rfl
  have n80 : b 18 ≠ b 20 := cNe c rfl rfl rfl
  have n90 : b 19 ≠ b 20 := cNe c rfl rfl rfl
  unfold F_X2_add
  refine ⟨cK c 3 rfl rfl, ?_⟩
  rw [h1, if_pos h40]
  refine ⟨b 18, cO c 3 0 18 (by decide), cK c 18 rfl rfl, by omega, by rw [cN c 18 (c := 40) rfl rfl]; omega, fun v hv => by cases hv; exact ShC_7 hq, ?_⟩
  rintro _ rfl
  have e1 : zI (wO z (b 18) l.1 (some q)) (b 3) 4 = l.1 := by rw [zI_wO]; exact h1
  refine ⟨b 19, by rw [zO_wO, if_neg (fun w => n18 w.1)]; exact cO c 3 1 19 (by decide), cK c 19 rfl rfl, ?_⟩
  rw [e1]
  refine ⟨by omega, by rw [show zN (wO z (b 18) l.1 (some q)) (b 19) = 40 from cN c 19 (c := 40) rfl rfl]; omega, ?_⟩
  rintro _ rfl
  have e2 : zI (wI (wO z (b 18) l.1 (some q)) (b 19) l.1 p) (b 3) 4 = l.1 := by rw [zI_wI, if_neg (fun w => n19 w.1)]; exact e1
  refine ⟨b 20, by rw [zO_wI, zO_wO, if_neg (fun w => n18 w.1)]; exact cO c 3 2 20 (by decide), cK c 20 rfl rfl, ?_⟩
  rw [e2]
  refine ⟨by omega, by rw [show zN (wI (wO z (b 18) l.1 (some q)) (b 19) l.1 p) (b 20) = 40 from cN c 20 (c := 40) rfl rfl]; omega, ?_⟩
  rintro _ rfl
  generalize hz3 : wI (wI (wO z (b 18) l.1 (some q)) (b 19) l.1 p) (b 20) l.1 o = z3
  have f3 : FrZ (WL z b wLg no1 no1) z z3 := by rw [← hz3]; exact FrZ_wI (FrZ_wI (FrZ_wO FrZ_rf (Or.inl (WL_a (by decide) (by decide)))) (Or.inl (WL_a (by decide) (by decide)))) (Or.inl (WL_a (by decide) (by decide)))
  have e3 : zI z3 (b 3) 4 = l.1 := by rw [← hz3, zI_wI, if_neg (fun w => n20 w.1)]; exact e2
  have c3 := CWz_fr c f3 (by decide)
  have g3 : ∀ a i, zG z3 a i = zG z a i := fun a i => by rw [← hz3, zG_wI, zG_wI, zG_wO]
  refine o_ancestorsOf c3 e3 (by omega) (o_ancestorsOf c3 e3 (by omega) ?_)
  refine ⟨b 21, cO c3 3 3 21 (by decide), cK c3 21 rfl rfl, ?_⟩
  rw [e3]
  refine ⟨by omega, by rw [cN c3 21 (c := 40) rfl rfl]; omega, ?_⟩
  rintro _ rfl _ rfl
  rw [zI_wG, e3, w32e (x := l.1 + 1) (by omega) (by omega), zI_wI, if_pos ⟨rfl, rfl⟩, w32e (by omega) (by omega), show l.1 + 1 - 1 = l.1 by omega, if_pos ⟨p0, p1⟩, g3, g3]
  generalize hv : lOr (lOr (lShl 1 l.1) (zG z (b 21) p)) (if 0 ≤ o ∧ o < l.1 then zG z (b 21) o else 0) = vv
  generalize hy : wI (wG z3 (b 21) l.1 vv) (b 3) 4 (l.1 + 1) = y
  have f : FrZ (WL z b wLg no1 no1) z y := by rw [← hy]; exact FrZ_wI (FrZ_wG f3 (Or.inl (WL_a (by decide) (by decide)))) (Or.inl (WL_i (by decide) (by decide)))
  have sf : ∀ r s, ShO z I r s → ShO y I r s := fun _ _ q => ShO_fr f (WL_I r) (WL_7 c) q
  refine h y f ⟨by rw [← hy, zO_wI, zO_wG, ← hz3, zO_wI, zO_wI, zO_wO, if_pos ⟨rfl, rfl⟩], fun k hk => by rw [← hy, zO_wI, zO_wG, ← hz3, zO_wI, zO_wI, zO_wO, if_neg (fun w => hk w.2)]⟩ ⟨⟨by rw [← hy, zI_wI, if_pos ⟨rfl, rfl⟩]; rfl, by show 1 ≤ l.1 + 1 ∧ l.1 + 1 ≤ 40; omega⟩, fun k k0 k1 => ?_⟩
  replace k1 : k < l.1 + 1 := k1
  have E18 : zO y (b 18) k = if k = l.1 then some q else zO z (b 18) k := by
    rw [← hy, zO_wI, zO_wG, ← hz3, zO_wI, zO_wI, zO_wO]
    by_cases e : k = l.1
    · rw [if_pos ⟨rfl, e⟩, if_pos e]
    · rw [if_neg (fun w => e w.2), if_neg e]
  have E19 : zI y (b 19) k = if k = l.1 then p else zI z (b 19) k := by
    rw [← hy, zI_wI, if_neg (fun w => n19 w.1.symm), zI_wG, ← hz3, zI_wI, if_neg (fun w => n90 w.1), zI_wI, zI_wO]
    by_cases e : k = l.1
    · rw [if_pos ⟨rfl, e⟩, if_pos e]
    · rw [if_neg (fun w => e w.2), if_neg e]
  have E20 : zI y (b 20) k = if k = l.1 then o else zI z (b 20) k := by
    rw [← hy, zI_wI, if_neg (fun w => n20 w.1.symm), zI_wG, ← hz3, zI_wI, zI_wI, zI_wO]
    by_cases e : k = l.1
    · rw [if_pos ⟨rfl, e⟩, if_pos e]
    · rw [if_neg (fun w => e w.2), if_neg e, if_neg (fun w => n90 w.1.symm)]
  have E21 : zG y (b 21) k = if k = l.1 then vv else zG z (b 21) k := by
    rw [← hy, zG_wI, zG_wG, g3]
    by_cases e : k = l.1
    · rw [if_pos ⟨rfl, e⟩, if_pos e]
    · rw [if_neg (fun w => e w.2), if_neg e]
  have old : ∀ v, 0 ≤ v → v < l.1 → ∀ f : Nat, v < f → ancB (addL l s p o).2.2.1 (addL l s p o).2.2.2 f v = zG z (b 21) v := fun v v0 v1 f vf => by
    rw [(h3 v v0 v1).1.2.2.2]
    refine (ancB_c _ _ v (by omega) vf (fun j j0 j1 => ?_)).symm
    have q := (h3 j j0 (by omega)).2
    refine ⟨⟨?_, ?_⟩, q.1.2.1, q.2.2⟩
    · show _ = if j = l.1 then p else l.2.2.1 j; rw [if_neg (by omega)]
    · show _ = if j = l.1 then o else l.2.2.2 j; rw [if_neg (by omega)]
  rw [E18, E19, E20, E21]
  by_cases e : k = l.1
  · rw [if_pos e, if_pos e, if_pos e, if_pos e]
    have a1 : (addL l s p o).2.1 k = s := if_pos e
    have a2 : (addL l s p o).2.2.1 k = p := if_pos e
    have a3 : (addL l s p o).2.2.2 k = o := if_pos e
    rw [a1, a2, a3]
    refine ⟨⟨sf _ _ ⟨q, rfl, hq⟩, rfl, rfl, ?_⟩, ⟨⟨by omega, by omega, fun _ => p0⟩, o0, by omega⟩⟩
    rw [ancB, if_neg (by omega), a2, a3, old p p0 p1 k.toNat (by omega), ← hv, e]
    by_cases eo : 0 ≤ o ∧ o < l.1
    · rw [if_pos eo, old o eo.1 eo.2 l.1.toNat (by omega)]
    · rw [if_neg eo, ancB_n _ _ _ (by omega)]
  · rw [if_neg e, if_neg e, if_neg e, if_neg e]
    obtain ⟨⟨g1, g2, g3, g4⟩, g5⟩ := h3 k k0 (by omega)
    have a1 : (addL l s p o).2.1 k = l.2.1 k := if_neg e
    have a2 : (addL l s p o).2.2.1 k = l.2.2.1 k := if_neg e
    have a3 : (addL l s p o).2.2.2 k = l.2.2.2 k := if_neg e
    rw [a1, a2, a3, old k k0 (by omega) _ (by omega)]
    exact ⟨⟨sf _ _ g1, g2, g3, rfl⟩, g5⟩
def pCommit (S : SS) : Nat × Int × SS := if 0 < pUns S then (1, 0, S) else if S.2.1.1 < 40 then (0, S.2.1.1, S.1, addL S.2.1 S.2.2.2.1.1 (pHead S) S.2.2.1.2.2.1, ((fun k => if k = S.2.2.1.2.1 then S.2.1.1 else S.2.2.1.1 k), S.2.2.1.2.1, -1, S.2.2.1.2.2.2), S.2.2.2.1, (0, S.2.2.2.2.2)) else (2, 0, S)
def wCm : WR := [(3, some 4), (18, none), (19, none), (20, none), (21, none), (9, none), (0, some 13), (5, some 2)]
theorem o_commit {z : Z} {b : Nat → Nat} {I : Nat → Prop} {S : SS} {c s : Nat} {P : Int → Z → Prop} {X : Nat → Z → Prop} (R : RC z b I S) (hc : 2 ≤ c) (hs : 324 ≤ s) (hx1 : (pCommit S).1 = 1 → X 3 z) (hx2 : (pCommit S).1 = 2 → X 2 z) (h : (pCommit S).1 = 0 → ∀ y J, GrI z I J → FrZ (WL z b wCm no1 no1) z y → RC y b J (pCommit S).2.2 → (∃ q, zO y (b 18) S.2.1.1 = some q ∧ zK z q = 0 ∧ zO y q 3 = none ∧ ∀ k, k ≠ S.2.1.1 → zO y (b 18) k = zO z (b 18) k) → P (pCommit S).2.1 y) : F_X11_commit (b 0) z c s P X := by
  obtain ⟨cw, r, ht, hl, hb, hk, hq⟩ := id R
  have hB := RC_Bd R
  unfold F_X11_commit
  unfold pCommit at hx1 hx2 h
  refine ⟨cK cw 0 rfl rfl, b 5, cO cw 0 4 5 (by decide), cK cw 5 rfl rfl, o_unsettled R ?_⟩
  by_cases e : 0 < pUns S
  · rw [if_neg (by omega)]; rw [if_pos e] at hx1; exact ⟨by omega, by omega, hx1 rfl⟩
  · rw [if_pos (by omega)]; rw [if_neg e] at hx2 h
    refine ⟨b 3, cO cw 0 2 3 (by decide), cK cw 3 rfl rfl, ?_⟩
    rw [hl.1.1]
    by_cases e2 : S.2.1.1 < 40
    · rw [if_pos e2]; rw [if_pos e2] at h
      obtain ⟨wa, hw, sw⟩ := hk.1
      refine ⟨wa, hw, ShC_7 sw, c, s, Nat.le_refl _, Nat.le_refl _, ?_⟩
      refine k_twinS R sw hc hs (fun q z1 J iJ fn zq sq s3 R1 => ?_)
      obtain ⟨c1, r1, ht1, hl1, hb1, hk1, hq1⟩ := id R1
      refine ⟨cK c1 0 rfl rfl, o_head c1 hb1 ?_⟩
      refine ⟨b 3, cO cw 0 2 3 (by decide), cK c1 3 rfl rfl, ?_⟩
      rw [hb1.2.2.1.1]
      have hh := hB.2.2.1.2.1
      have hh1 := hB.2.2.1.1 _ hh.1 hh.2.1
      have hm := hB.2.2.1.2.2
      refine o_logadd c1 r1 hl1 sq e2 hh.2.2 hh1.2 hm.1 hm.2 (fun z2 f2 q18 hl2 => ?_)
      have c2 := CWz_fr c1 f2 (by decide)
      refine ⟨b 9, cO cw 0 8 9 (by decide), cK c2 9 rfl rfl, ?_⟩
      rw [hb.2.1.1]
      refine ⟨hh.1, by rw [cN c2 9 (c := 6) rfl rfl]; exact hh.2.1, ?_⟩
      rintro _ rfl
      refine ⟨cK c2 0 rfl rfl, ?_⟩
      rintro _ rfl
      refine ⟨b 5, cO c2 0 4 5 (by decide), cK c2 5 rfl rfl, ?_⟩
      rintro _ rfl
      generalize hy : wI (wI (wI z2 (b 9) S.2.2.1.2.1 S.2.1.1) (b 0) 13 (-1)) (b 5) 2 0 = y
      have n95 : b 9 ≠ b 5 := cNe cw rfl rfl rfl
      have n90 : b 9 ≠ b 0 := cNe cw rfl rfl rfl
      have n50 : b 5 ≠ b 0 := cNe cw rfl rfl rfl
      have f3 : FrZ (WL z2 b [(9, none), (0, some 13), (5, some 2)] no1 no1) z2 y := by rw [← hy]; exact FrZ_wI (FrZ_wI (FrZ_wI FrZ_rf (Or.inl (WL_a (by decide) (by decide)))) (Or.inl (WL_i (by decide) (by decide)))) (Or.inl (WL_i (by decide) (by decide)))
      have r2 := Frz_fr r1 f2
      have cy := CWz_fr c2 f3 (by decide)
      have ht2 := RCt_fr c1 f2 (by decide) ht1
      have hb2 := RCb_fr c1 f2 (by decide) hb1
      have hk2 := RCk_fr c1 r1 f2 (by decide) hk1
      have hq2 := RCq_fr c1 r1 f2 (by decide) hq1
      have hby : RCb y b (S.2.1.1 + 1) ((fun k => if k = S.2.2.1.2.1 then S.2.1.1 else S.2.2.1.1 k), S.2.2.1.2.1, -1, S.2.2.1.2.2.2) := by
        obtain ⟨g1, g2, g3, g4⟩ := hb2
        have e0 : ∀ k, wHas [(0, some 12), (0, some 14), (0, some 15), (0, some 16), (0, some 17)] 0 k → zI y (b 0) k = zI z2 (b 0) k := fun k hk => (bI c2 f3 (R := [(0, some 12), (0, some 14), (0, some 15), (0, some 16), (0, some 17)]) (by decide) (k := 0) (by decide) (i := k) hk).1
        have e13 : zI y (b 0) 13 = -1 := by rw [← hy, zI_wI, if_neg (fun w => n50 w.1.symm), zI_wI, if_pos ⟨rfl, rfl⟩]
        have h1 := hB.2.1.1
        unfold RCb
        rw [e13, e0 12 (wHas_i (by decide)), e0 14 (wHas_i (by decide)), e0 15 (wHas_i (by decide)), e0 16 (wHas_i (by decide)), e0 17 (wHas_i (by decide))]
        refine ⟨fun k k0 k1 => ?_, ⟨g2.1, g2.2.1, g2.2.2.1, ?_⟩, ⟨rfl, by show (-1 : Int) ≤ -1; decide, by show (-1 : Int) < S.2.1.1 + 1; omega⟩, g4⟩
        · rw [← hy, zI_wI, if_neg (fun w => n95 w.1), zI_wI, if_neg (fun w => n90 w.1), zI_wI]
          dsimp only
          by_cases ck : k = S.2.2.1.2.1
          · rw [if_pos ⟨rfl, ck⟩, if_pos ck]; exact ⟨rfl, by omega, by omega⟩
          · rw [if_neg (fun w => ck w.2), if_neg ck]
            obtain ⟨q1, q2, q3⟩ := g1 k k0 k1
            exact ⟨q1, q2, by omega⟩
        · dsimp only; rw [if_pos rfl]; omega
      have hqy : RCq y b J (0, S.2.2.2.2.2) := by
        obtain ⟨g1, g2, g3⟩ := hq2
        have e52 : zI y (b 5) 2 = 0 := by rw [← hy, zI_wI, if_pos ⟨rfl, rfl⟩]
        have e10 : zI y (b 0) 10 = zI z2 (b 0) 10 := (bI c2 f3 (R := [(0, some 10)]) (by decide) (k := 0) (by decide) (i := 10) (wHas_i (by decide))).1
        have ed : ∀ k, zI y (b 10) k = zI z2 (b 10) k := fun k => (bI c2 f3 (R := [(10, none)]) (by decide) (k := 10) (by decide) (i := k) (wHas_a (by decide))).1
        exact ⟨⟨⟨e52, by show (0 : Int) ≤ 0; decide, by show (0 : Int) ≤ 362; decide⟩, fun k k0 k1 => absurd k1 (by show ¬ k < 0; omega), fun j k j0 j1 => absurd j1 (by show ¬ j < 0; omega)⟩, by rw [e10]; exact g2, fun k k0 k1 => by rw [ed, ed, ed]; exact g3 k k0 k1⟩
      refine o_head cy hby ?_
      show P ((fun k => if k = S.2.2.1.2.1 then S.2.1.1 else S.2.2.1.1 k) S.2.2.1.2.1) y
      dsimp only
      rw [if_pos rfl]
      have hly := RCl_fr c2 r2 f3 (by decide) hl2
      have fa : FrZ (WL z b wCm no1 no1) z y := by
        refine FrZ_wl (y := z1) (FrZ_mono fn (fun _ _ _ w => w.elim)) (FrZ_wl (y := z2) (FrZ_mono f2 (fun a i ha w => ?_)) (FrZ_mono f3 (fun a i ha w => ?_)))
        · rcases w with ⟨t, t1, t2, t3⟩ | w | w
          · exact Or.inl ⟨t, (show ∀ t ∈ wLg, t ∈ wCm by decide) t t1, t2, t3⟩
          · exact absurd w.1 id
          · exact absurd w.1 id
        · rcases w with ⟨t, t1, t2, t3⟩ | w | w
          · exact Or.inl ⟨t, (show ∀ t ∈ ([(9, none), (0, some 13), (5, some 2)] : WR), t ∈ wCm by decide) t t1, t2, t3⟩
          · exact absurd w.1 id
          · exact absurd w.1 id
      refine h rfl y J iJ fa ⟨cy, Frz_fr r2 f3, RCt_fr c2 f3 (by decide) ht2, hly, hby, RCk_fr c2 r2 f3 (by decide) hk2, hqy⟩ ⟨q, ?_, zq, ?_, fun k hk => ?_⟩
      · rw [(bI c2 f3 (R := [(18, none)]) (by decide) (k := 18) (by decide) (i := S.2.1.1) (wHas_a (by decide))).2.2]; exact q18.1
      · have k1 := ShC_7 sq
        have k2 : zK z2 q = 7 := (f2.1 q (by rw [k1]; decide)).1.trans k1
        rw [(f3.2 q 3 (by rw [k2]; decide) (WL_q c2 k2)).2.2, (f2.2 q 3 (by rw [k1]; decide) (WL_q c1 k1)).2.2]; exact s3
      · rw [(bI c2 f3 (R := [(18, none)]) (by decide) (k := 18) (by decide) (i := k) (wHas_a (by decide))).2.2, q18.2 k hk]
        exact (fn.2 (b 18) k (by rw [cK cw 18 rfl rfl]; decide) (fun w => w)).2.2
    · rw [if_neg e2]; rw [if_neg e2] at hx2; exact ⟨by omega, by omega, hx2 rfl⟩
def wCo : WR := [(0, some 0), (0, some 8), (9, none), (10, none), (0, some 13), (0, some 98), (11, none), (0, some 65), (1, none), (2, none), (3, none), (4, none), (5, none)]
theorem i_commit {u : Mu} {N : Int} {S : SS} {P : Int → Mu → Prop} (hB : Bd S) (R : RM u N S) (h : ∀ v, RM v N (pCommit S).2.2 → FrM wCo u v → (mI v 0 0 = ((pCommit S).1 : Int) ∧ mI v 0 65 = mI u 0 65) → P (pCommit S).2.1 v) : F_X12_commit u P := by
  unfold F_X12_commit
  rintro _ rfl
  have R' := RM_thr (x := 0) hB R
  have f : FrM wCo u (uI u 0 0 0) := FrM_uI FrM_rf (wHas_i (by decide))
  have z0 : mI (uI u 0 0 0) 0 0 = 0 := by rw [mI_uI, if_pos ⟨rfl, rfl⟩]
  generalize hv : uI u 0 0 0 = v at R' f z0 ⊢
  obtain ⟨⟨n1, n2⟩, ht, hl, hb, hk, hq⟩ := id R'
  unfold pCommit at h
  have h40 := hB.2.1.1
  have hh := hB.2.2.1.2.1
  refine i_unsettled hB hq ?_
  by_cases e : 0 < pUns S
  · rw [if_neg (by omega)]; rw [if_pos e] at h
    exact i_throwing (h _ (RM_thr hB R') (FrM_uI f (wHas_i (by decide))) ⟨by rw [mI_uI, if_pos ⟨rfl, rfl⟩]; rfl, by rw [mI_uI, if_neg (by omega), ← hv, mI_uI, if_neg (by omega)]⟩)
  · rw [if_pos (by omega)]; rw [if_neg e] at h
    rw [hl.1]
    by_cases e2 : S.2.1.1 < 40
    · rw [if_neg (by omega)]; rw [if_pos e2] at h
      refine i_copySheet (by omega) (by omega) (by omega) (by omega) ?_
      have q12 : mI (cpF v 40 S.2.1.1) 0 12 = S.2.2.1.2.1 := by rw [mF0 (Or.inl rfl) (by omega)]; exact hb.2.1
      have q11 : ∀ i, mI (cpF v 40 S.2.1.1) 11 i = mI v 11 i := fun i => mF0 (Or.inr (by decide)) (by omega)
      refine i_head (by rw [q12]; exact hh.1) (by rw [q12]; exact hh.2.1) ?_
      rw [q12, q11, hb.1 _ hh.1 hh.2.1]
      refine ⟨by omega, by omega, ?_⟩
      rintro _ rfl
      refine ⟨by omega, by omega, ?_⟩
      rintro _ rfl _ rfl _ rfl
      have q13 : ∀ x, mI (uI (cpF v 40 S.2.1.1) 9 S.2.1.1 x) 0 13 = S.2.2.1.2.2.1 := fun x => by rw [mI_uI, if_neg (by omega), mF0 (Or.inl rfl) (by omega)]; exact hb.2.2.1
      rw [q13]
      generalize hx1 : uI (uI (uI (uI (cpF v 40 S.2.1.1) 9 S.2.1.1 (S.2.2.1.1 S.2.2.1.2.1)) 10 S.2.1.1 S.2.2.1.2.2.1) 0 13 (-1)) 0 98 0 = x1
      have r12 : mI x1 0 12 = S.2.2.1.2.1 := by rw [← hx1, mI_uI, if_neg (by omega), mI_uI, if_neg (by omega), mI_uI, if_neg (by omega), mI_uI, if_neg (by omega)]; exact q12
      have r8 : mI x1 0 8 = S.2.1.1 := by rw [← hx1, mI_uI, if_neg (by omega), mI_uI, if_neg (by omega), mI_uI, if_neg (by omega), mI_uI, if_neg (by omega), mF0 (Or.inl rfl) (by omega)]; exact hl.1
      have fx1 : ∀ w, FrM wCo w v → FrM wCo w x1 := fun w fw => by rw [← hx1]; exact FrM_uI (FrM_uI (FrM_uI (FrM_uI (FrM_cpF fw (by decide) (by decide)) (wHas_a (by decide))) (wHas_a (by decide))) (wHas_i (by decide))) (wHas_i (by decide))
      rw [r12]
      refine ⟨hh.1, hh.2.1, ?_⟩
      rintro _ rfl _ rfl
      rw [show mI (uI x1 11 S.2.2.1.2.1 S.2.1.1) 0 8 = S.2.1.1 by rw [mI_uI, if_neg (by omega)]; exact r8, w32e (by omega) (by omega)]
      generalize hx : uI (uI x1 11 S.2.2.1.2.1 S.2.1.1) 0 8 (S.2.1.1 + 1) = x
      have fx : ∀ w, FrM wCo w v → FrM wCo w x := fun w fw => by rw [← hx]; exact FrM_uI (FrM_uI (fx1 w fw) (wHas_a (by decide))) (wHas_i (by decide))
      have fv := fx v FrM_rf
      have g := Grw_fr n1.1 fv (by decide)
      have e19 := mE fv (R := rgC) (by decide) (k := 0) (i := 19) (wHas_i (by decide))
      have e24 := mE fv (R := rgC) (by decide) (k := 0) (i := 24) (wHas_i (by decide))
      have s1 : ∀ s, s ≠ S.2.1.1 → SlM v x s s := fun s hs => by
        have a0 : SlM v (cpF v 40 S.2.1.1) s s := SlM_fo hs
        have fz : FrM [(9, none), (10, none), (11, none), (0, none)] (cpF v 40 S.2.1.1) x := by rw [← hx, ← hx1]; exact FrM_uI (FrM_uI (FrM_uI (FrM_uI (FrM_uI (FrM_uI FrM_rf (wHas_a (by decide))) (wHas_a (by decide))) (wHas_a (by decide))) (wHas_a (by decide))) (wHas_a (by decide))) (wHas_a (by decide))
        exact SlM_tr a0 (SlM_fr fz (by decide))
      have s2 : SlM v x 40 S.2.1.1 := by
        have a0 : SlM v (cpF v 40 S.2.1.1) 40 S.2.1.1 := SlM_f
        have fz : FrM [(9, none), (10, none), (11, none), (0, none)] (cpF v 40 S.2.1.1) x := by rw [← hx, ← hx1]; exact FrM_uI (FrM_uI (FrM_uI (FrM_uI (FrM_uI (FrM_uI FrM_rf (wHas_a (by decide))) (wHas_a (by decide))) (wHas_a (by decide))) (wHas_a (by decide))) (wHas_a (by decide))) (wHas_a (by decide))
        exact SlM_tr a0 (SlM_fr fz (by decide))
      have p : ∀ i, i ≠ 65 → i ≠ 13 → i ≠ 98 → i ≠ 8 → mI x 0 i = mI v 0 i := fun i a1 a2 a3 a4 => by rw [← hx, mI_uI, if_neg (by omega), mI_uI, if_neg (by omega), ← hx1, mI_uI, if_neg (by omega), mI_uI, if_neg (by omega), mI_uI, if_neg (by omega), mI_uI, if_neg (by omega), mF0 (Or.inl rfl) (by omega)]
      have p8 : mI x 0 8 = S.2.1.1 + 1 := by rw [← hx, mI_uI, if_pos ⟨rfl, rfl⟩]
      have p13 : mI x 0 13 = -1 := by rw [← hx, mI_uI, if_neg (by omega), mI_uI, if_neg (by omega), ← hx1, mI_uI, if_neg (by omega), mI_uI, if_pos ⟨rfl, rfl⟩]
      have p98 : mI x 0 98 = 0 := by rw [← hx, mI_uI, if_neg (by omega), mI_uI, if_neg (by omega), ← hx1, mI_uI, if_pos ⟨rfl, rfl⟩]
      have p9 : ∀ k, mI x 9 k = if k = S.2.1.1 then pHead S else mI v 9 k := fun k => by
        rw [← hx, mI_uI, if_neg (by omega), mI_uI, if_neg (by omega), ← hx1, mI_uI, if_neg (by omega), mI_uI, if_neg (by omega), mI_uI, if_neg (by omega), mI_uI, mF0 (Or.inr (by decide)) (by omega)]
        by_cases ck : k = S.2.1.1
        · rw [if_pos ⟨rfl, ck⟩, if_pos ck]; rfl
        · rw [if_neg (fun w => ck w.2), if_neg ck]
      have p10 : ∀ k, mI x 10 k = if k = S.2.1.1 then S.2.2.1.2.2.1 else mI v 10 k := fun k => by
        rw [← hx, mI_uI, if_neg (by omega), mI_uI, if_neg (by omega), ← hx1, mI_uI, if_neg (by omega), mI_uI, if_neg (by omega), mI_uI]
        by_cases ck : k = S.2.1.1
        · rw [if_pos ⟨rfl, ck⟩, if_pos ck]
        · rw [if_neg (fun w => ck w.2), if_neg ck, mI_uI, if_neg (by omega), mF0 (Or.inr (by decide)) (by omega)]
      have p11 : ∀ k, mI x 11 k = if k = S.2.2.1.2.1 then S.2.1.1 else mI v 11 k := fun k => by
        rw [← hx, mI_uI, if_neg (by omega), mI_uI]
        by_cases ck : k = S.2.2.1.2.1
        · rw [if_pos ⟨rfl, ck⟩, if_pos ck]
        · rw [if_neg (fun w => ck w.2), if_neg ck, ← hx1, mI_uI, if_neg (by omega), mI_uI, if_neg (by omega), mI_uI, if_neg (by omega), mI_uI, if_neg (by omega), mF0 (Or.inr (by decide)) (by omega)]
      refine h x ⟨by rw [e19, e24]; exact ⟨n1, n2⟩, RMt_fr fv (by decide) ht, ⟨p8, fun k k0 k1 => ?_⟩, ?_, ?_, ?_⟩ (fx u f) ⟨by rw [p 0 (by decide) (by decide) (by decide) (by decide)]; exact z0, by
        have c65 : mI (cpF v 40 S.2.1.1) 0 65 = mI v 0 65 := by
          unfold cpF
          rw [if_neg (by omega)]
          unfold cpS
          rw [mI_cpM, if_neg (by omega), mI_cpM, if_neg (by omega), mI_cpM, if_neg (by omega), mI_uI, if_neg (by omega), mI_uI, if_neg (by omega)]
        rw [← hx, mI_uI, if_neg (by omega), mI_uI, if_neg (by omega), ← hx1, mI_uI, if_neg (by omega), mI_uI, if_neg (by omega), mI_uI, if_neg (by omega), mI_uI, if_neg (by omega), c65, ← hv, mI_uI, if_neg (by omega)]⟩
      · replace k1 : k < S.2.1.1 + 1 := k1
        rw [p9, p10]
        by_cases ck : k = S.2.1.1
        · rw [if_pos ck, if_pos ck]
          have a1 : (addL S.2.1 S.2.2.2.1.1 (pHead S) S.2.2.1.2.2.1).2.1 k = S.2.2.2.1.1 := if_pos ck
          have a2 : (addL S.2.1 S.2.2.2.1.1 (pHead S) S.2.2.1.2.2.1).2.2.1 k = pHead S := if_pos ck
          have a3 : (addL S.2.1 S.2.2.2.1.1 (pHead S) S.2.2.1.2.2.1).2.2.2 k = S.2.2.1.2.2.1 := if_pos ck
          refine ⟨?_, a2.symm, a3.symm⟩
          show ShM x k ((addL S.2.1 S.2.2.2.1.1 (pHead S) S.2.2.1.2.2.1).2.1 k)
          rw [a1, ck]; exact ShM_s hB.2.2.2.1.1 g s2 hk.1
        · rw [if_neg ck, if_neg ck]
          have a1 : (addL S.2.1 S.2.2.2.1.1 (pHead S) S.2.2.1.2.2.1).2.1 k = S.2.1.2.1 k := if_neg ck
          have a2 : (addL S.2.1 S.2.2.2.1.1 (pHead S) S.2.2.1.2.2.1).2.2.1 k = S.2.1.2.2.1 k := if_neg ck
          have a3 : (addL S.2.1 S.2.2.2.1.1 (pHead S) S.2.2.1.2.2.1).2.2.2 k = S.2.1.2.2.2 k := if_neg ck
          obtain ⟨g1, g2, g3⟩ := hl.2 k k0 (by omega)
          refine ⟨?_, g2.trans a2.symm, g3.trans a3.symm⟩
          show ShM x k ((addL S.2.1 S.2.2.2.1.1 (pHead S) S.2.2.1.2.2.1).2.1 k)
          rw [a1]; exact ShM_s (hB.2.1.2 k k0 (by omega)).1 g (s1 k ck) g1
      · obtain ⟨g1, g2, g3, g4⟩ := hb
        unfold RMb
        rw [p 12 (by decide) (by decide) (by decide) (by decide), p13, p 25 (by decide) (by decide) (by decide) (by decide), p 14 (by decide) (by decide) (by decide) (by decide), p 6 (by decide) (by decide) (by decide) (by decide), p 7 (by decide) (by decide) (by decide) (by decide)]
        refine ⟨fun k k0 k1 => ?_, g2, rfl, g4⟩
        rw [p11]
        dsimp only
        by_cases ck : k = S.2.2.1.2.1
        · rw [if_pos ck, if_pos ck]
        · rw [if_neg ck, if_neg ck]; exact g1 k k0 k1
      · obtain ⟨g1, ⟨g2, g3, g4, g5⟩, g6, g7⟩ := hk
        have bk := hB.2.2.2.1
        refine ⟨ShM_s bk.1 g (s1 40 (by omega)) g1, ⟨by rw [p 16 (by decide) (by decide) (by decide) (by decide)]; exact g2, by rw [p 17 (by decide) (by decide) (by decide) (by decide)]; exact g3, by rw [p 15 (by decide) (by decide) (by decide) (by decide)]; exact ⟨g4, g5⟩⟩, fun k k0 k1 => ?_, fun k k0 k1 => ?_⟩
        · rw [p 15 (by decide) (by decide) (by decide) (by decide)]; exact ShM_s (bk.2.2.1 k k0 k1) g (s1 _ (by omega)) (g6 k k0 k1)
        · exact ShM_s (bk.2.2.2 k k0 k1) g (s1 _ (by omega)) (g7 k k0 k1)
      · obtain ⟨⟨g1, g2⟩, g3, g4⟩ := hq
        have ed : ∀ k i, wHas [(101, none), (102, none), (103, none)] k i → mI x k i = mI v k i := fun k i hk => mE fv (R := [(101, none), (102, none), (103, none)]) (by decide) hk
        refine ⟨⟨p98, fun k k0 k1 => absurd k1 (by show ¬ k < 0; omega)⟩, by rw [p 104 (by decide) (by decide) (by decide) (by decide)]; exact g3, fun k k0 k1 => ?_⟩
        rw [ed 101 k (wHas_a (by decide)), ed 102 k (wHas_a (by decide)), ed 103 k (wHas_a (by decide))]; exact g4 k k0 k1
    · rw [if_pos (by omega)]; rw [if_neg e2] at h
      exact i_throwing (h _ (RM_thr hB R') (FrM_uI f (wHas_i (by decide))) ⟨by rw [mI_uI, if_pos ⟨rfl, rfl⟩]; rfl, by rw [mI_uI, if_neg (by omega), ← hv, mI_uI, if_neg (by omega)]⟩)
