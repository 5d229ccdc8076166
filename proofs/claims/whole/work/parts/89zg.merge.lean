/-! ===== merge, pick: the system ===== -/
def setC (S : SS) (D : List Cf) : SS := (S.1, S.2.1, S.2.2.1, S.2.2.2.1, ((D.length : Int), (fun k => D.getD k.toNat cf0), S.2.2.2.2.2.2))
def set13 (S : SS) (x : Int) : SS := (S.1, S.2.1, (S.2.2.1.1, S.2.2.1.2.1, x, S.2.2.1.2.2.2), S.2.2.2)
def set15 (S : SS) (x : Int) : SS := (S.1, S.2.1, (S.2.2.1.1, S.2.2.1.2.1, S.2.2.1.2.2.1, S.2.2.1.2.2.2.1, x, S.2.2.1.2.2.2.2.2), S.2.2.2)
def setF (S : SS) : SS := (S.1, S.2.1, S.2.2.1, (S.2.2.2.1.1, 0, S.2.2.2.1.2.2.1, 0, S.2.2.2.1.2.2.2.2), S.2.2.2.2)
theorem RC_c {z y : Z} {b : Nat → Nat} {I J : Nat → Prop} {S : SS} {D : List Cf} (R : RC z b I S) (i : ∀ a, I a → J a) (f : FrZ (WL z b wJa no1 no1) z y) (rJ : Frz y b J) (d : CfLC y b J D) (hD : D.length ≤ 362) : RC y b J (setC S D) := by
  obtain ⟨c, r, ht, hl, hb, hk, hq⟩ := R
  have hl' := RCl_fr c r f (by decide) hl
  have hk' := RCk_fr c r f (by decide) hk
  obtain ⟨d1, d2, d3⟩ := d
  refine ⟨CWz_fr c f (by decide), rJ, RCt_fr c f (by decide) ht, ⟨hl'.1, fun k a e => ?_⟩, RCb_fr c f (by decide) hb, ⟨ShO_I i hk'.1, hk'.2.1, fun k a e => ShO_I i (hk'.2.2.1 k a e), fun k a e => ShO_I i (hk'.2.2.2 k a e)⟩, ⟨⟨d1, by show (0 : Int) ≤ (D.length : Int); omega, by show (D.length : Int) ≤ 362; omega⟩, fun k a e => ?_, fun j k a e a' e' g => ?_⟩, ?_, fun k a e => ?_⟩
  · obtain ⟨⟨g1, g2⟩, g3⟩ := hl'.2 k a e
    exact ⟨⟨ShO_I i g1, g2⟩, g3⟩
  · replace e : k < (D.length : Int) := e
    have := d2 k.toNat (by omega)
    rw [Int.toNat_of_nonneg a] at this; exact this
  · replace e : j < (D.length : Int) := e
    replace e' : k < (D.length : Int) := e'
    have := d3 j.toNat k.toNat (by omega) (by omega) (by rw [Int.toNat_of_nonneg a, Int.toNat_of_nonneg a']; exact g)
    omega
  · rw [(bI c f (R := [(0, some 10)]) (by decide) (k := 0) (by decide) (i := 10) (wHas_i (by decide))).1]; exact hq.2.1
  · rw [(bI c f (R := [(10, none)]) (by decide) (k := 10) (by decide) (i := 3 * k) (wHas_a (by decide))).1, (bI c f (R := [(10, none)]) (by decide) (k := 10) (by decide) (i := 3 * k + 1) (wHas_a (by decide))).1, (bI c f (R := [(10, none)]) (by decide) (k := 10) (by decide) (i := 3 * k + 2) (wHas_a (by decide))).1]; exact hq.2.2 k a e
theorem RC_n {z y : Z} {b : Nat → Nat} {I : Nat → Prop} {S : SS} (R : RC z b I S) (f : FrZ (WL z b wJn no1 no1) z y) : RC y b I S := by
  obtain ⟨c, r, ht, hl, hb, hk, hq⟩ := R
  exact ⟨CWz_fr c f (by decide), Frz_fr r f, RCt_fr c f (by decide) ht, RCl_fr c r f (by decide) hl, RCb_fr c f (by decide) hb, RCk_fr c r f (by decide) hk, RCq_fr c r f (by decide) hq⟩
theorem RC_13 {z : Z} {b : Nat → Nat} {I : Nat → Prop} {S : SS} {x : Int} (R : RC z b I S) (hx : -1 ≤ x ∧ x < S.2.1.1) : RC (wI z (b 0) 13 x) b I (set13 S x) := by
  obtain ⟨c, r, ht, hl, hb, hk, hq⟩ := R
  have f : FrZ (WL z b [(0, some 13)] no1 no1) z (wI z (b 0) 13 x) := FrZ_wI FrZ_rf (Or.inl (WL_i (by decide) (by decide)))
  have n09 : b 9 ≠ b 0 := cNe c rfl rfl rfl
  refine ⟨CWz_fr c f (by decide), Frz_fr r f, RCt_fr c f (by decide) ht, RCl_fr c r f (by decide) hl, ?_, RCk_fr c r f (by decide) hk, RCq_fr c r f (by decide) hq⟩
  obtain ⟨g1, g2, g3, g4, g5, g6, g7⟩ := hb
  unfold RCb
  simp only [zI_wI, if_neg (fun g : b 9 = b 0 ∧ _ => n09 g.1)]
  refine ⟨g1, by simp; exact g2, ⟨by rw [if_pos ⟨trivial, trivial⟩]; rfl, hx⟩, by simp; exact g4, by simp; exact g5, by simp; exact g6, by simp; exact g7⟩
theorem RC_15 {z : Z} {b : Nat → Nat} {I : Nat → Prop} {S : SS} {x : Int} (R : RC z b I S) (hx : 0 ≤ x ∧ x ≤ 200) : RC (wI z (b 0) 15 x) b I (set15 S x) := by
  obtain ⟨c, r, ht, hl, hb, hk, hq⟩ := R
  have f : FrZ (WL z b [(0, some 15)] no1 no1) z (wI z (b 0) 15 x) := FrZ_wI FrZ_rf (Or.inl (WL_i (by decide) (by decide)))
  have n09 : b 9 ≠ b 0 := cNe c rfl rfl rfl
  refine ⟨CWz_fr c f (by decide), Frz_fr r f, RCt_fr c f (by decide) ht, RCl_fr c r f (by decide) hl, ?_, RCk_fr c r f (by decide) hk, RCq_fr c r f (by decide) hq⟩
  obtain ⟨g1, g2, g3, g4, g5, g6, g7⟩ := hb
  unfold RCb
  simp only [zI_wI, if_neg (fun g : b 9 = b 0 ∧ _ => n09 g.1)]
  refine ⟨g1, by simp; exact g2, by simp; exact g3, by simp; exact g4, ⟨by rw [if_pos ⟨trivial, trivial⟩]; rfl, hx⟩, by simp; exact g6, by simp; exact g7⟩
theorem RC_fg {z : Z} {b : Nat → Nat} {I : Nat → Prop} {S : SS} (R : RC z b I S) : RC (wI (wI z (b 6) 2 0) (b 6) 3 0) b I (setF S) := by
  obtain ⟨c, r, ht, hl, hb, hk, hq⟩ := R
  have f : FrZ (WL z b [(6, some 2), (6, some 3)] no1 no1) z (wI (wI z (b 6) 2 0) (b 6) 3 0) := FrZ_wI (FrZ_wI FrZ_rf (Or.inl (WL_i (by decide) (by decide)))) (Or.inl (WL_i (by decide) (by decide)))
  refine ⟨CWz_fr c f (by decide), Frz_fr r f, RCt_fr c f (by decide) ht, RCl_fr c r f (by decide) hl, RCb_fr c f (by decide) hb, ?_, RCq_fr c r f (by decide) hq⟩
  have e11 : zO (wI (wI z (b 6) 2 0) (b 6) 3 0) (b 0) 11 = zO z (b 0) 11 := rfl
  refine ⟨by rw [e11]; exact ShO_fr f (WL_I r) (WL_7 c) hk.1, ⟨by rw [zI_wI, if_neg (by omega), zI_wI, if_pos ⟨rfl, rfl⟩]; rfl, by rw [zI_wI, if_pos ⟨rfl, rfl⟩]; rfl, by show (0 : Int) ≤ 0; decide, by show (0 : Int) ≤ 0; decide, by show (0 : Int) + 0 ≤ 40; decide⟩, fun k a e => absurd e (by show ¬ k < 0; omega), fun k a e => absurd e (by show ¬ k < 0; omega)⟩
def wSj : WR := [(0, some 15), (6, some 2), (6, some 3), (0, some 11)]
theorem o_showJ {z : Z} {b : Nat → Nat} {I : Nat → Prop} {S : SS} {q : Nat} {s : Sh} {P : Z → Prop} (R : RC z b I S) (hs : ShC z I q s) (hj : S.2.2.1.2.2.2.2.1 < 200) (h : ∀ y, FrZ (WL z b wSj (wkT z b) no1) z y → (zO y (b 0) 11 = some q ∧ WkS z y b (fun a => a = q)) → RC y b I (setW (setF (set15 S (S.2.2.1.2.2.2.2.1 + 1))) s) → P y) : F_X11_showJoined (b 0) (some q) z P := by
  have j0 := R.2.2.2.2.1.2.2.2.2.1
  unfold F_X11_showJoined F_X7_forget
  refine ⟨cK R.1 0 rfl rfl, ?_⟩
  rw [j0.1, w32e (by omega) (by omega)]
  rintro _ rfl
  have R1 := RC_15 (x := S.2.2.1.2.2.2.2.1 + 1) R (by omega)
  have f1 : FrZ (WL z b wSj (wkT z b) no1) z (wI z (b 0) 15 (S.2.2.1.2.2.2.2.1 + 1)) := FrZ_wI FrZ_rf (Or.inl (WL_i (by decide) (by decide)))
  have s1 : ShC (wI z (b 0) 15 (S.2.2.1.2.2.2.2.1 + 1)) I q s := ShC_fr (FrZ_wI FrZ_rf (Or.inl (WL_i (by decide) (by decide))) : FrZ (WL z b [(0, some 15)] no1 no1) z _) (WL_I R.2.1) (WL_7 R.1) hs
  have o1 : zO (wI z (b 0) 15 (S.2.2.1.2.2.2.2.1 + 1)) (b 0) 11 = zO z (b 0) 11 := rfl
  generalize wI z (b 0) 15 (S.2.2.1.2.2.2.2.1 + 1) = z1 at R1 f1 s1 o1
  refine ⟨b 6, cO R1.1 0 5 6 (by decide), cK R1.1 6 rfl rfl, cK R1.1 6 rfl rfl, ?_⟩
  rintro _ rfl _ rfl
  have R2 := RC_fg R1
  have f2 : FrZ (WL z1 b wSj (wkT z1 b) no1) z1 (wI (wI z1 (b 6) 2 0) (b 6) 3 0) := FrZ_wI (FrZ_wI FrZ_rf (Or.inl (WL_i (by decide) (by decide)))) (Or.inl (WL_i (by decide) (by decide)))
  have s2 : ShC (wI (wI z1 (b 6) 2 0) (b 6) 3 0) I q s := ShC_fr (FrZ_wI (FrZ_wI FrZ_rf (Or.inl (WL_i (by decide) (by decide)))) (Or.inl (WL_i (by decide) (by decide))) : FrZ (WL z1 b [(6, some 2), (6, some 3)] no1 no1) z1 _) (WL_I R1.2.1) (WL_7 R1.1) s1
  have o2 : zO (wI (wI z1 (b 6) 2 0) (b 6) 3 0) (b 0) 11 = zO z1 (b 0) 11 := rfl
  generalize wI (wI z1 (b 6) 2 0) (b 6) 3 0 = z2 at R2 f2 s2 o2
  have e62 : zI z2 (b 6) 2 = 0 := R2.2.2.2.2.2.1.2.1.1
  have e63 : zI z2 (b 6) 3 = 0 := R2.2.2.2.2.2.1.2.1.2.1
  refine ⟨cK R2.1 0 rfl rfl, o_show R2 s2 (fun y fy ey Ry => ?_)⟩
  have ws : WkS z y b (fun a => a = q) := by
    refine ⟨fun a ha => ?_, fun a ha => ey.2.2 a (by rw [o2, o1]; exact ha)⟩
    rcases ey.2.1 a ha with g | g | ⟨k, k0, k1, g⟩ | ⟨k, k0, k1, g⟩
    · exact Or.inl g
    · exact Or.inr (Or.inl (by rw [← o1, ← o2]; exact g))
    · rw [e62] at k1; omega
    · rw [e63] at k1; omega
  refine h y ?_ ⟨ey.1, ws⟩ Ry
  have up : ∀ {u v : Z}, zO u (b 0) 11 = zO z (b 0) 11 → FrZ (WL u b wSj (wkT u b) no1) u v → FrZ (WL u b wSj (wkT z b) no1) u v := fun ho g => FrZ_mono g (fun a i ha k => by
    rcases k with k | k | k
    · exact Or.inl k
    · exact Or.inr (Or.inl ⟨by show zO z (b 0) 11 = some a; rw [← ho]; exact k.1, k.2⟩)
    · exact absurd k.1 id)
  have fy' : FrZ (WL z2 b wSj (wkT z2 b) no1) z2 y := FrZ_mono fy (fun a i ha k => by
    rcases k with ⟨t, t1, t2, t3⟩ | k | k
    · exact Or.inl ⟨t, (show ∀ t ∈ [((0 : Nat), some (11 : Int))], t ∈ wSj by decide) t t1, t2, t3⟩
    · exact Or.inr (Or.inl k)
    · exact absurd k.1 id)
  exact FrZ_wl (FrZ_wl f1 (up o1 f2)) (up (o2.trans o1) fy')
def wMz : WR := [(5, some 3), (5, some 4), (5, some 5), (31, none), (5, some 2), (30, none), (0, some 13), (0, some 15), (6, some 2), (6, some 3), (0, some 11)]
theorem FrZ_subT {z y : Z} {b : Nat → Nat} {L R : WR} {T : Nat → Prop} (h : ∀ t ∈ L, t ∈ R) (f : FrZ (WL z b L T no1) z y) : FrZ (WL z b R T no1) z y := FrZ_mono f (fun a i ha k => by
  rcases k with ⟨t, t1, t2⟩ | k | k
  · exact Or.inl ⟨t, h t t1, t2⟩
  · exact Or.inr (Or.inl k)
  · exact absurd k.1 id)
theorem FrZ_noT {z y : Z} {b : Nat → Nat} {L R : WR} {T : Nat → Prop} (h : ∀ t ∈ L, t ∈ R) (f : FrZ (WL z b L no1 no1) z y) : FrZ (WL z b R T no1) z y := FrZ_mono f (fun a i ha k => by
  rcases k with ⟨t, t1, t2⟩ | k | k
  · exact Or.inl ⟨t, h t t1, t2⟩
  · exact absurd k.1 id
  · exact absurd k.1 id)
/-- what a join is asked to know -/
def JnP (S : SS) : Prop := (CoS S.2.2.2.1.1 ∧ DsS S.2.2.2.1.1) ∧ ∀ k, 0 ≤ k → k < S.2.1.1 → CoS (S.2.1.2.1 k) ∧ DsS (S.2.1.2.1 k)
theorem o_joined {z : Z} {b : Nat → Nat} {I : Nat → Prop} {S : SS} {th cm : Int} {c s : Nat} {P : Option Nat → Z → Prop} (hwz : WzI z I) (R : RC z b I S) (jp : JnP S) (ht : 0 ≤ th ∧ th < S.2.1.1) (hm : 0 ≤ cm ∧ cm < S.2.1.1) (hc : 400 ≤ c) (hs : 3000 ≤ s) (hn : ¬ fitJ S.2.2.2.1.1 (S.2.1.2.1 th) (S.2.1.2.1 cm) → ∀ y, FrZ (WL z b wJn no1 no1) z y → RC y b I S → P none y) (h : fitJ S.2.2.2.1.1 (S.2.1.2.1 th) (S.2.1.2.1 cm) → ∀ q y J, GrI z I J → FrZ (WL z b wJa no1 no1) z y → (zK z q = 0 ∧ zO y q 3 = none) → ShC y J q (jSh S.2.2.2.1.1 (S.2.1.2.1 th) (S.2.1.2.1 cm)) → RC y b J (setC S (cfA S.2.2.2.1.1 (S.2.1.2.1 th) (S.2.1.2.1 cm))) → P (some q) y) : F_X3_join (b 5) (zO z (b 0) 11) (zO z (b 18) th) (zO z (b 18) cm) z c s P := by
  obtain ⟨cw, r, -, hl, -, hk, -⟩ := id R
  obtain ⟨⟨⟨ta, hta, sta⟩, -⟩, -⟩ := hl.2 th ht.1 ht.2
  obtain ⟨⟨⟨ca, hca, sca⟩, -⟩, -⟩ := hl.2 cm hm.1 hm.2
  obtain ⟨wa, hwa, swa⟩ := hk.1
  rw [hta, hca, hwa]
  exact o_join hwz cw r swa sta sca jp.1.1 (jp.2 th ht.1 ht.2).1 (jp.2 cm hm.1 hm.2).1 jp.1.2 (jp.2 th ht.1 ht.2).2 (jp.2 cm hm.1 hm.2).2 hc hs (fun nf y fy => hn nf y fy (RC_n R fy)) (fun fit q y J iJ rJ fy hq q3 sq dq => h fit q y J iJ fy ⟨hq, q3⟩ sq (RC_c R iJ.1 fy rJ dq (cfA_n fit)))
theorem o_merge {z : Z} {b : Nat → Nat} {I : Nat → Prop} {S : SS} {x : Int} {c s : Nat} {P : Int → Z → Prop} {X : Nat → Z → Prop} (hwz : WzI z I) (R : RC z b I S) (jp : JnP S) (hc : 401 ≤ c) (hs : 3006 ≤ s) (hx1 : (pMerge x S).1 = 1 → X 0 z) (hx2 : (pMerge x S).1 = 2 → X 4 z) (hx3 : (pMerge x S).1 = 3 → X 2 z) (hx4 : (pMerge x S).1 = 4 → ∀ y, FrZ (WL z b wJn no1 no1) z y → RC y b I S → X 3 y) (h : (pMerge x S).1 = 0 → ∀ y J, GrI z I J → FrZ (WL z b wMz (wkT z b) no1) z y → RC y b J (pMerge x S).2.2 → ((y = z ∧ (pMerge x S).2.2 = S) ∨ WkN z y b) → P (pMerge x S).2.1 y) : F_X11_merge (b 0) x z c s P X := by
  obtain ⟨cw, r, ht, hl, hb, hk, hq⟩ := id R
  have hB := RC_Bd R
  unfold F_X11_merge
  unfold pMerge at hx1 hx2 hx3 hx4 h
  refine o_isBranch ?_
  by_cases e : 0 ≤ x ∧ x ≤ 5
  rotate_left
  · rw [show tb (0 ≤ x ∧ x ≤ 5) = 0 by rw [tb, if_neg e], if_pos rfl]
    rw [if_neg e] at hx1; exact ⟨by omega, by omega, hx1 rfl⟩
  rw [show tb (0 ≤ x ∧ x ≤ 5) = 1 by rw [tb, if_pos e], if_neg (by decide)]
  rw [if_pos e] at hx2 hx3 hx4 h
  refine ⟨cK cw 0 rfl rfl, b 9, cO cw 0 8 9 (by decide), cK cw 9 rfl rfl, e.1, by rw [cN cw 9 (c := 6) rfl rfl]; omega, ?_⟩
  obtain ⟨b1, b2⟩ := hb.1 x e.1 (by omega)
  rw [b1]
  by_cases e2 : S.2.2.1.1 x = -1
  · rw [if_pos e2]; rw [if_pos e2] at hx2; exact ⟨by omega, by omega, hx2 rfl⟩
  rw [if_neg e2]; rw [if_neg e2] at hx3 hx4 h
  have j0 := hb.2.2.2.2.1
  rw [j0.1]
  by_cases e3 : S.2.2.1.2.2.2.2.1 = 200
  · rw [if_neg (by omega)]; rw [if_pos e3] at hx3; exact ⟨by omega, by omega, hx3 rfl⟩
  rw [if_pos (by omega)]; rw [if_neg e3] at hx4 h
  refine o_isBusy R ?_
  by_cases e4 : freeP S
  rotate_left
  · rw [show tb (¬ (S.2.2.1.2.2.1 = -1 ∧ pUns S ≤ 0)) = 1 by rw [tb, if_pos e4], if_neg (by decide)]
    rw [if_neg e4] at hx4
    exact ⟨by omega, by omega, hx4 rfl z FrZ_rf R⟩
  rw [show tb (¬ (S.2.2.1.2.2.1 = -1 ∧ pUns S ≤ 0)) = 0 by rw [tb, if_neg (fun g => g e4)], if_pos rfl]
  rw [if_pos e4] at hx4 h
  have hh := hB.2.2.1.2.1
  have hh1 : pHead S < S.2.1.1 := (hB.2.2.1.1 _ hh.1 hh.2.1).2
  have hh0 : 0 ≤ pHead S := hh.2.2
  refine o_head cw hb ⟨b 3, cO cw 0 2 3 (by decide), cK cw 3 rfl rfl, o_common R (v := pHead S) (w := S.2.2.1.1 x) ⟨hh0, hh1⟩ ⟨by omega, by omega⟩ ?_⟩
  rw [bsP_c]
  have bsb := bsP_b hB (v := S.2.2.1.1 x) (w := pHead S) ⟨by omega, by omega⟩ ⟨hh0, hh1⟩
  generalize bsP S.2.1.2.2.1 S.2.1.2.2.2 (S.2.2.1.1 x) (pHead S) = cm at hx4 h bsb
  generalize hth : S.2.2.1.1 x = th at hx4 h b2 e2
  by_cases e5 : cm = th
  · rw [if_pos e5]; rw [if_pos e5] at h
    exact h rfl z I GrI_rf FrZ_rf R (Or.inl ⟨rfl, rfl⟩)
  rw [if_neg e5]; rw [if_neg e5] at hx4 h
  refine o_at cw hl ?_
  rw [if_pos ⟨by omega, by omega⟩]
  refine o_at cw hl ?_
  rw [if_pos bsb]
  refine ⟨b 5, cO cw 0 4 5 (by decide), cK cw 5 rfl rfl, 400, 3000, by omega, by omega, o_joined hwz R jp ⟨by omega, by omega⟩ bsb (Nat.le_refl _) (Nat.le_refl _) (fun nf y fy Ry => ?_) (fun fit q y J iJ fy hq sq Ry => ?_)⟩
  · rw [if_pos rfl]
    rw [if_neg nf] at hx4
    exact ⟨by omega, by omega, hx4 rfl y fy Ry⟩
  · rw [if_neg (by simp)]
    rw [if_pos fit] at h
    refine ⟨cK Ry.1 0 rfl rfl, ?_⟩
    rintro _ rfl
    have R1 := RC_13 (x := th) Ry (by show -1 ≤ th ∧ th < S.2.1.1; omega)
    have f1 : FrZ (WL y b wMz (wkT z b) no1) y (wI y (b 0) 13 th) := FrZ_wI FrZ_rf (Or.inl (WL_i (by decide) (by decide)))
    have s1 : ShC (wI y (b 0) 13 th) J q (jSh S.2.2.2.1.1 (S.2.1.2.1 th) (S.2.1.2.1 cm)) := ShC_fr (FrZ_wI FrZ_rf (Or.inl (WL_i (by decide) (by decide))) : FrZ (WL y b [(0, some 13)] no1 no1) y _) (WL_I Ry.2.1) (WL_7 Ry.1) sq
    have o11 : zO (wI y (b 0) 13 th) (b 0) 11 = zO z (b 0) 11 := (bI cw fy (R := [(0, some 11)]) (by decide) (k := 0) (by decide) (i := 11) (wHas_i (by decide))).2.2
    have fz : FrZ (WL z b (wJa ++ [(0, some 13)]) no1 no1) z (wI y (b 0) 13 th) := FrZ_wI (FrZ_subT (by decide) fy) (Or.inl (WL_i (by decide) (by decide)))
    have y3 : zO (wI y (b 0) 13 th) q 3 = none := hq.2
    generalize wI y (b 0) 13 th = y1 at R1 f1 s1 o11 fz y3
    refine o_showJ R1 s1 (by show S.2.2.1.2.2.2.2.1 < 200; omega) (fun y2 f2 e11 R2 => ?_)
    refine ⟨cK R2.1 0 rfl rfl, b 5, cO R2.1 0 4 5 (by decide), cK R2.1 5 rfl rfl, ?_⟩
    rw [R2.2.2.2.2.2.2.1.1.1]
    refine h rfl y2 J iJ (FrZ_wl (FrZ_wl (FrZ_noT (by decide) fy) f1) (FrZ_mono f2 (fun a i ha k => ?_))) R2 (Or.inr (WkN_of cw fz (by decide) hq.1 y3 R1.1 (ShC_7 s1) f2 e11.1 e11.2))
    rcases k with ⟨t, t1, t2⟩ | k | k
    · exact Or.inl ⟨t, (show ∀ t ∈ wSj, t ∈ wMz by decide) t t1, t2⟩
    · exact Or.inr (Or.inl ⟨by show zO z (b 0) 11 = some a; rw [← o11]; exact k.1, k.2⟩)
    · exact absurd k.1 id
theorem o_pick {z : Z} {b : Nat → Nat} {I : Nat → Prop} {S : SS} {x : Int} {c s : Nat} {P : Int → Z → Prop} {X : Nat → Z → Prop} (hwz : WzI z I) (R : RC z b I S) (jp : JnP S) (hc : 401 ≤ c) (hs : 3006 ≤ s) (hx1 : (pPick x S).1 = 1 → X 4 z) (hx2 : (pPick x S).1 = 2 → X 2 z) (hx3 : (pPick x S).1 = 3 → ∀ y, FrZ (WL z b wJn no1 no1) z y → RC y b I S → X 3 y) (h : (pPick x S).1 = 0 → ∀ y J, GrI z I J → FrZ (WL z b wMz (wkT z b) no1) z y → RC y b J (pPick x S).2.2 → ((y = z ∧ (pPick x S).2.2 = S) ∨ WkN z y b) → P (pPick x S).2.1 y) : F_X11_pick (b 0) x z c s P X := by
  obtain ⟨cw, r, ht, hl, hb, hk, hq⟩ := id R
  have hB := RC_Bd R
  have h40 := hB.2.1.1
  unfold F_X11_pick F_X11_pick_15
  unfold pPick at hx1 hx2 hx3 h
  by_cases e0 : x ≤ 0
  · rw [if_pos e0]; rw [if_neg (by omega)] at hx1; exact ⟨by omega, by omega, hx1 rfl⟩
  rw [if_neg e0]
  refine ⟨cK cw 0 rfl rfl, b 3, cO cw 0 2 3 (by decide), cK cw 3 rfl rfl, ?_⟩
  rw [hl.1.1]
  by_cases e : x < S.2.1.1
  rotate_left
  · rw [if_neg e]; rw [if_neg (by omega)] at hx1; exact ⟨by omega, by omega, hx1 rfl⟩
  rw [if_pos e]; rw [if_pos ⟨by omega, e⟩] at hx2 hx3 h
  have j0 := hb.2.2.2.2.1
  rw [j0.1]
  by_cases e3 : S.2.2.1.2.2.2.2.1 = 200
  · rw [if_neg (by omega)]; rw [if_pos e3] at hx2; exact ⟨by omega, by omega, hx2 rfl⟩
  rw [if_pos (by omega)]; rw [if_neg e3] at hx3 h
  refine o_isBusy R ?_
  by_cases e4 : freeP S
  rotate_left
  · rw [show tb (¬ (S.2.2.1.2.2.1 = -1 ∧ pUns S ≤ 0)) = 1 by rw [tb, if_pos e4], if_neg (by decide)]
    rw [if_neg e4] at hx3
    exact ⟨by omega, by omega, hx3 rfl z FrZ_rf R⟩
  rw [show tb (¬ (S.2.2.1.2.2.1 = -1 ∧ pUns S ≤ 0)) = 0 by rw [tb, if_neg (fun g => g e4)], if_pos rfl]
  rw [if_pos e4] at hx3 h
  refine o_at cw hl ?_
  rw [if_pos ⟨by omega, e⟩]
  obtain ⟨p0, ⟨p1, p2, p3⟩, -⟩ := hl.2 x (by omega) e
  have p3' := p3 (by omega)
  refine ⟨b 19, cO cw 3 1 19 (by decide), cK cw 19 rfl rfl, by omega, by rw [cN cw 19 (c := 40) rfl rfl]; omega, ?_⟩
  rw [p0.2.1]
  generalize S.2.1.2.2.1 x = cm at hx3 h p1 p2 p3'
  refine o_at cw hl ?_
  rw [if_pos ⟨by omega, by omega⟩]
  refine ⟨b 5, cO cw 0 4 5 (by decide), cK cw 5 rfl rfl, 400, 3000, by omega, by omega, o_joined hwz R jp ⟨by omega, e⟩ ⟨by omega, by omega⟩ (Nat.le_refl _) (Nat.le_refl _) (fun nf y fy Ry => ?_) (fun fit q y J iJ fy hq sq Ry => ?_)⟩
  · rw [if_pos rfl]
    rw [if_neg nf] at hx3
    exact ⟨by omega, by omega, hx3 rfl y fy Ry⟩
  · rw [if_neg (by simp)]
    rw [if_pos fit] at h
    refine ⟨cK Ry.1 0 rfl rfl, ?_⟩
    have o11 : zO y (b 0) 11 = zO z (b 0) 11 := (bI cw fy (R := [(0, some 11)]) (by decide) (k := 0) (by decide) (i := 11) (wHas_i (by decide))).2.2
    refine o_showJ Ry sq (by show S.2.2.1.2.2.2.2.1 < 200; omega) (fun y2 f2 e11 R2 => ?_)
    refine ⟨cK R2.1 0 rfl rfl, b 5, cO R2.1 0 4 5 (by decide), cK R2.1 5 rfl rfl, ?_⟩
    rw [R2.2.2.2.2.2.2.1.1.1]
    refine h rfl y2 J iJ (FrZ_wl (FrZ_noT (by decide) fy) (FrZ_mono f2 (fun a i ha k => ?_))) R2 (Or.inr (WkN_of cw fy (by decide) hq.1 hq.2 Ry.1 (ShC_7 sq) f2 e11.1 e11.2))
    rcases k with ⟨t, t1, t2⟩ | k | k
    · exact Or.inl ⟨t, (show ∀ t ∈ wSj, t ∈ wMz by decide) t t1, t2⟩
    · exact Or.inr (Or.inl ⟨by show zO z (b 0) 11 = some a; rw [← o11]; exact k.1, k.2⟩)
    · exact absurd k.1 id
