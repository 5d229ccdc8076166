theorem FrM_sub {L R : WR} {u v : Mu} (f : FrM L u v) (h : ∀ t ∈ L, t ∈ R) : FrM R u v := ⟨fun k i n => f.1 k i (fun q => n (by obtain ⟨t, ht, e⟩ := q; exact ⟨t, h t ht, e⟩)), fun k i n => f.2 k i (fun q => n (by obtain ⟨t, ht, e⟩ := q; exact ⟨t, h t ht, e⟩))⟩
/-! ===== feed ===== -/
def wd5 (a b c d e k : Int) : Int := if k < 4 then a else if k < 8 then b else if k < 12 then c else if k < 16 then d else e
def fB (a b c d e k : Int) : Int := bShr (wd5 a b c d e k) (24 - 8 * (k % 4)) % 256
def pFeed (a b c d e : Int) (S : SS) : Int × SS := if S.1.1 ≤ 380 then (S.1.1 + 20, (S.1.1 + 20, (fun i => if S.1.1 ≤ i ∧ i < S.1.1 + 20 then fB a b c d e (i - S.1.1) else S.1.2.1 i), S.1.2.2), S.2) else (-1, S)
def wFd : WR := [(1, some 3), (11, none)]
theorem k_add {z : Z} {b : Nat → Nat} {x n : Int} {P : Z → Prop} (c : CWz z b) (hn : zI z (b 1) 3 = n) (n0 : 0 ≤ n) (n1 : n + 4 ≤ 400) (h : ∀ y, FrZ (WL z b wFd no1 no1) z y → zI y (b 1) 3 = n + 4 → (∀ i, zI y (b 11) i = if n ≤ i ∧ i < n + 4 then w8 (bShr x (24 - 8 * (i - n))) else zI z (b 11) i) → zI y (b 1) 4 = zI z (b 1) 4 → zI y (b 1) 5 = zI z (b 1) 5 → P y) : F_X5_add (b 1) x z P := by
  unfold F_X5_add F_X5_add_3 F_X5_add_46
  refine lp_I (fun q => -8 ≤ q.1 ∧ q.1 ≤ 24 ∧ q.1 % 8 = 0 ∧ FrZ (WL z b wFd no1 no1) z q.2 ∧ zI q.2 (b 1) 3 = n + (24 - q.1) / 8 ∧ (∀ i, zI q.2 (b 11) i = if n ≤ i ∧ i < n + (24 - q.1) / 8 then w8 (bShr x (24 - 8 * (i - n))) else zI z (b 11) i) ∧ zI q.2 (b 1) 4 = zI z (b 1) 4 ∧ zI q.2 (b 1) 5 = zI z (b 1) 5) (fun q => (q.1 + 8).toNat) ?_ (24, z) ⟨by show (-8 : Int) ≤ 24; decide, by show (24 : Int) ≤ 24; decide, by show (24 : Int) % 8 = 0; decide, FrZ_rf, by show _ = n + (24 - 24) / 8; rw [hn]; omega, fun i => by show _ = if n ≤ i ∧ i < n + (24 - 24) / 8 then _ else _; rw [if_neg (by omega)], rfl, rfl⟩
  rintro G ⟨j, y⟩ ⟨j0, j1, j2, f, e3, e11, e4, e5⟩ ih
  simp only at j0 j1 j2 f e3 e11 e4 e5
  have cy := CWz_fr c f (by decide)
  have k1 := cK cy 1 rfl rfl
  have n11 : b 11 ≠ b 1 := cNe c rfl rfl rfl
  unfold L_X5_add_3
  dsimp only
  by_cases d : j < 0
  · rw [if_pos d]
    have ej : j = -8 := by omega
    subst ej
    exact h y f (by rw [e3]; omega) (fun i => by rw [e11 i, show n + (24 - -8) / 8 = n + 4 by omega]) e4 e5
  · rw [if_neg d]
    refine ⟨k1, ?_⟩
    rw [if_neg (by omega)]
    refine ⟨b 11, cO cy 1 0 11 (by decide), cK cy 11 rfl rfl, by omega, by rw [cN cy 11 (c := 400) rfl rfl]; omega, ?_⟩
    rintro _ rfl _ rfl
    rw [zI_wI, if_neg (fun w => n11 w.1.symm), w32e (x := j + -8) (by omega) (by omega), w32e (by omega) (by omega)]
    refine ih (j + -8, _) ⟨by show -8 ≤ j + -8; omega, by show j + -8 ≤ 24; omega, by show (j + -8) % 8 = 0; omega, FrZ_wI (FrZ_wI f (Or.inl (WL_a (by decide) (by decide)))) (Or.inl (WL_i (by decide) (by decide))), ?_, fun i => ?_, ?_, ?_⟩ (by show (j + -8 + 8).toNat < (j + 8).toNat; omega)
    · show zI (wI _ _ _ _) _ _ = n + (24 - (j + -8)) / 8
      rw [zI_wI, if_pos ⟨rfl, rfl⟩, e3]; omega
    · show zI (wI _ _ _ _) _ _ = if n ≤ i ∧ i < n + (24 - (j + -8)) / 8 then _ else _
      rw [zI_wI, if_neg (fun w => n11 w.1), zI_wI, e3]
      by_cases ci : i = n + (24 - j) / 8
      · rw [if_pos ⟨rfl, ci⟩, if_pos (by omega), show 24 - 8 * (i - n) = j by omega]
      · rw [if_neg (fun w => ci w.2), e11 i]
        by_cases c2 : n ≤ i ∧ i < n + (24 - j) / 8
        · rw [if_pos c2, if_pos (by omega)]
        · rw [if_neg c2, if_neg (by omega)]
    · show zI (wI _ _ _ _) _ _ = _
      rw [zI_wI, if_neg (by omega), zI_wI, if_neg (fun w => n11 w.1.symm)]; exact e4
    · show zI (wI _ _ _ _) _ _ = _
      rw [zI_wI, if_neg (by omega), zI_wI, if_neg (fun w => n11 w.1.symm)]; exact e5
/-- writes from another heap's side -/
theorem FrZ_wl {z y w : Z} {b : Nat → Nat} {L : WR} {T C : Nat → Prop} (f : FrZ (WL z b L T C) z y) (g : FrZ (WL y b L T C) y w) : FrZ (WL z b L T C) z w := by
  refine ⟨fun a h => ?_, fun a i h hn => ?_⟩
  · obtain ⟨e1, e2⟩ := f.1 a h
    obtain ⟨e3, e4⟩ := g.1 a (by rw [e1]; exact h)
    exact ⟨e3.trans e1, e4.trans e2⟩
  · obtain ⟨e1, e2, e3⟩ := f.2 a i h hn
    have e := (f.1 a h).1
    obtain ⟨e4, e5, e6⟩ := g.2 a i (by rw [e]; exact h) (fun v => hn (by
      rcases v with v | ⟨v1, v2, v3⟩ | ⟨v1, v2, v3⟩
      · exact Or.inl v
      · exact Or.inr (Or.inl ⟨v1, by rw [← e]; exact v2, v3⟩)
      · exact Or.inr (Or.inr ⟨v1, by rw [← e]; exact v2, v3⟩)))
    exact ⟨e4.trans e1, e5.trans e2, e6.trans e3⟩
theorem o_feed {z : Z} {b : Nat → Nat} {I : Nat → Prop} {S : SS} {x1 x2 x3 x4 x5 : Int} {P : Int → Z → Prop} (R : RC z b I S) (h : ∀ y, FrZ (WL z b wFd no1 no1) z y → RC y b I (pFeed x1 x2 x3 x4 x5 S).2 → P (pFeed x1 x2 x3 x4 x5 S).1 y) : F_X11_feed (b 0) x1 x2 x3 x4 x5 z P := by
  obtain ⟨c, r, ht, hl, hb, hk, hq⟩ := id R
  obtain ⟨⟨t1, t2⟩, t3, t4, t5⟩ := ht
  unfold F_X11_feed
  unfold pFeed at h
  refine ⟨cK c 0 rfl rfl, b 1, cO c 0 0 1 (by decide), cK c 1 rfl rfl, ?_⟩
  rw [t1]
  by_cases e : S.1.1 ≤ 380
  · rw [if_pos e]; rw [if_pos e] at h
    refine k_add c t1 t2.1 (by omega) (fun y1 f1 a1 b1 g1 h1 => ?_)
    have c1 := CWz_fr c f1 (by decide)
    refine ⟨cK c1 0 rfl rfl, b 1, cO c1 0 0 1 (by decide), cK c1 1 rfl rfl, ?_⟩
    refine k_add c1 a1 (by omega) (by omega) (fun y2 f2 a2 b2 g2 h2 => ?_)
    have c2 := CWz_fr c1 f2 (by decide)
    refine ⟨cK c2 0 rfl rfl, b 1, cO c2 0 0 1 (by decide), cK c2 1 rfl rfl, ?_⟩
    refine k_add c2 a2 (by omega) (by omega) (fun y3 f3 a3 b3 g3 h3 => ?_)
    have c3 := CWz_fr c2 f3 (by decide)
    refine ⟨cK c3 0 rfl rfl, b 1, cO c3 0 0 1 (by decide), cK c3 1 rfl rfl, ?_⟩
    refine k_add c3 a3 (by omega) (by omega) (fun y4 f4 a4 b4 g4 h4 => ?_)
    have c4 := CWz_fr c3 f4 (by decide)
    refine ⟨cK c4 0 rfl rfl, b 1, cO c4 0 0 1 (by decide), cK c4 1 rfl rfl, ?_⟩
    refine k_add c4 a4 (by omega) (by omega) (fun y5 f5 a5 b5 g5 h5 => ?_)
    have c5 := CWz_fr c4 f5 (by decide)
    refine ⟨cK c5 0 rfl rfl, b 1, cO c5 0 0 1 (by decide), cK c5 1 rfl rfl, ?_⟩
    have f : FrZ (WL z b wFd no1 no1) z y5 := FrZ_wl f1 (FrZ_wl f2 (FrZ_wl f3 (FrZ_wl f4 f5)))
    rw [a5, show S.1.1 + 4 + 4 + 4 + 4 + 4 = S.1.1 + 20 by omega]
    refine h y5 f ⟨c5, Frz_fr r f, ?_, RCl_fr c r f (by decide) hl, RCb_fr c f (by decide) hb, RCk_fr c r f (by decide) hk, RCq_fr c r f (by decide) hq⟩
    refine ⟨⟨by rw [a5]; show _ = S.1.1 + 20; omega, by show 0 ≤ S.1.1 + 20 ∧ S.1.1 + 20 ≤ 400; omega⟩, fun i i0 i1 => ?_, by rw [g5, g4, g3, g2, g1]; exact t4, by rw [h5, h4, h3, h2, h1]; exact t5⟩
    show zI y5 (b 11) i = w8 (if S.1.1 ≤ i ∧ i < S.1.1 + 20 then fB x1 x2 x3 x4 x5 (i - S.1.1) else S.1.2.1 i) ∧ 0 ≤ (if S.1.1 ≤ i ∧ i < S.1.1 + 20 then fB x1 x2 x3 x4 x5 (i - S.1.1) else S.1.2.1 i) ∧ (if S.1.1 ≤ i ∧ i < S.1.1 + 20 then fB x1 x2 x3 x4 x5 (i - S.1.1) else S.1.2.1 i) ≤ 255
    rw [b5 i, b4 i, b3 i, b2 i, b1 i]
    by_cases ci : S.1.1 ≤ i ∧ i < S.1.1 + 20
    · rw [if_pos ci]
      unfold fB
      rw [w8_m]
      refine ⟨?_, by omega, by omega⟩
      unfold wd5
      by_cases q5 : S.1.1 + 16 ≤ i
      · rw [if_pos (by omega), if_neg (by omega), if_neg (by omega), if_neg (by omega), if_neg (by omega)]; congr 2; omega
      · rw [if_neg (by omega)]
        by_cases q4 : S.1.1 + 12 ≤ i
        · rw [if_pos (by omega), if_neg (by omega), if_neg (by omega), if_neg (by omega), if_pos (by omega)]; congr 2; omega
        · rw [if_neg (by omega)]
          by_cases q3 : S.1.1 + 8 ≤ i
          · rw [if_pos (by omega), if_neg (by omega), if_neg (by omega), if_pos (by omega)]; congr 2; omega
          · rw [if_neg (by omega)]
            by_cases q2 : S.1.1 + 4 ≤ i
            · rw [if_pos (by omega), if_neg (by omega), if_pos (by omega)]; congr 2; omega
            · rw [if_neg (by omega), if_pos (by omega), if_pos (by omega)]; congr 2; omega
    · rw [if_neg ci, if_neg (by omega), if_neg (by omega), if_neg (by omega), if_neg (by omega), if_neg (by omega)]; exact t3 i i0 i1
  · rw [if_neg e]; rw [if_neg e] at h; exact h z FrZ_rf R
def wFm : WR := [(0, some 0), (0, some 40), (39, none)]
theorem i_feed {u : Mu} {N : Int} {S : SS} {x1 x2 x3 x4 x5 : Int} {P : Int → Mu → Prop} (hB : Bd S) (R : RM u N S) (h : ∀ v, RM v (N + 1) (pFeed x1 x2 x3 x4 x5 S).2 → FrM wFm u v → P (pFeed x1 x2 x3 x4 x5 S).1 v) : F_X12_feed x1 x2 x3 x4 x5 u P := by
  unfold F_X12_feed
  rintro _ rfl
  have R' := RM_thr (x := 0) hB R
  have f : FrM wFm u (uI u 0 0 0) := FrM_uI FrM_rf (wHas_i (by decide))
  generalize hv : uI u 0 0 0 = v at R' f ⊢
  obtain ⟨⟨n1, n2⟩, ht, hl, hb, hk, hq⟩ := id R'
  have hT := hB.1
  have t0 := ht.1
  rw [ht.1, w32e (by omega) (by omega)]
  unfold pFeed at h
  by_cases e : S.1.1 ≤ 380
  · rw [if_pos (by omega)]; rw [if_pos e] at h
    unfold F_X12_feed_23
    refine lp_I (fun q => 0 ≤ q.1 ∧ q.1 ≤ 20 ∧ FrM wFm u q.2 ∧ FrM [(39, none)] v q.2 ∧ ∀ i, mI q.2 39 i = if S.1.1 ≤ i ∧ i < S.1.1 + q.1 then fB x1 x2 x3 x4 x5 (i - S.1.1) else mI v 39 i) (fun q => (20 - q.1).toNat) ?_ (0, v) ⟨by show (0 : Int) ≤ 0; decide, by show (0 : Int) ≤ 20; decide, f, FrM_rf, fun i => by show _ = if S.1.1 ≤ i ∧ i < S.1.1 + 0 then _ else _; rw [if_neg (by omega)]⟩
    rintro G ⟨k, w⟩ ⟨k0, k1, fu, fv, e39⟩ ih
    simp only at k0 k1 fu fv e39
    have e40 : mI w 0 40 = S.1.1 := (mE fv (R := [(0, some 40)]) (by decide) (wHas_i (by decide))).trans t0
    have step : ∀ s0, s0 = wd5 x1 x2 x3 x4 x5 k → k < 20 → F_X12_feed_76 x1 x2 x3 x4 x5 k s0 w (fun o => match o with
        | .inl s' => G s'
        | .inr e => (fun (u : Mu) => (∀ u_121, u_121 = uI u 0 40 (w32 (mI u 0 40 + 20)) → P (mI u_121 0 40) u_121)) e) := by
      intro s0 hs0 hk20
      unfold F_X12_feed_76
      rw [e40, w32e (x := S.1.1 + k) (by omega) (by omega)]
      refine ⟨by omega, by omega, ?_⟩
      rintro _ rfl
      rw [bAnd_255, bAnd_3, w32e (x := 8 * (k % 4)) (by omega) (by omega), w32e (x := 24 - 8 * (k % 4)) (by omega) (by omega), w32e (by omega) (by omega)]
      refine ih (k + 1, _) ⟨by show 0 ≤ k + 1; omega, by show k + 1 ≤ 20; omega, FrM_uI fu (wHas_a (by decide)), FrM_uI fv (wHas_a (by decide)), fun i => ?_⟩ (by show (20 - (k + 1)).toNat < (20 - k).toNat; omega)
      show mI (uI _ _ _ _) _ _ = if S.1.1 ≤ i ∧ i < S.1.1 + (k + 1) then _ else _
      rw [mI_uI]
      by_cases ci : i = S.1.1 + k
      · rw [if_pos ⟨rfl, ci⟩, if_pos (by omega), hs0]; unfold fB; rw [show i - S.1.1 = k by omega]
      · rw [if_neg (fun q => ci q.2), e39 i]
        by_cases c2 : S.1.1 ≤ i ∧ i < S.1.1 + k
        · rw [if_pos c2, if_pos (by omega)]
        · rw [if_neg c2, if_neg (by omega)]
    unfold L_X12_feed_23
    dsimp only
    by_cases d : 20 ≤ k
    · rw [if_pos d]
      have ek : k = 20 := by omega
      subst ek
      show ∀ u_121, _ → _
      rintro _ rfl
      rw [e40, w32e (x := S.1.1 + 20) (by omega) (by omega), mI_uI, if_pos ⟨rfl, rfl⟩]
      have f2 : FrM [(39, none), (0, some 40)] v (uI w 0 40 (S.1.1 + 20)) := by
        exact FrM_uI (FrM_sub fv (by decide)) (wHas_i (by decide))
      have g := Grw_fr n1.1 f2 (by decide)
      have e19 := mE f2 (R := rgC) (by decide) (k := 0) (i := 19) (wHas_i (by decide))
      have e24 := mE f2 (R := rgC) (by decide) (k := 0) (i := 24) (wHas_i (by decide))
      refine h _ ⟨⟨⟨by rw [e19]; exact n1.1, by rw [e19]; show _ + (S.1.1 + 20) ≤ _; omega⟩, ⟨by rw [e24]; exact n2.1, by rw [e24]; omega⟩⟩, ?_, RMl_fr f2 (by decide) (fun k a c => (hB.2.1.2 k a c).1) g (fun k _ _ => SlM_fr f2 (by decide)) hl, RMb_fr f2 (by decide) hb, RMk_fr f2 (by decide) (by decide) hB.2.2.2.1.1 hB.2.2.2.1.2.2.1 hB.2.2.2.1.2.2.2 g hk, RMq_fr f2 (by decide) g hq⟩ (FrM_uI fu (wHas_i (by decide)))
      refine ⟨by rw [mI_uI, if_pos ⟨rfl, rfl⟩], fun i a c => ?_, ?_, ?_⟩
      · rw [mI_uI, if_neg (by omega), e39 i]
        show _ = if S.1.1 ≤ i ∧ i < S.1.1 + 20 then _ else _
        by_cases c2 : S.1.1 ≤ i ∧ i < S.1.1 + 20
        · rw [if_pos c2, if_pos c2]
        · rw [if_neg c2, if_neg c2]; exact ht.2.1 i a c
      · exact (mE f2 (R := [(0, some 41)]) (by decide) (wHas_i (by decide))).trans ht.2.2.1
      · exact (mE f2 (R := [(0, some 42)]) (by decide) (wHas_i (by decide))).trans ht.2.2.2
    · rw [if_neg d]
      by_cases d4 : 4 ≤ k
      · rw [if_pos d4]
        by_cases d8 : 8 ≤ k
        · rw [if_pos d8]
          by_cases d12 : 12 ≤ k
          · rw [if_pos d12]
            by_cases d16 : 16 ≤ k
            · rw [if_pos d16]
              exact step _ (by unfold wd5; rw [if_neg (by omega), if_neg (by omega), if_neg (by omega), if_neg (by omega)]) (by omega)
            · rw [if_neg d16]
              exact step _ (by unfold wd5; rw [if_neg (by omega), if_neg (by omega), if_neg (by omega), if_pos (by omega)]) (by omega)
          · rw [if_neg d12]
            exact step _ (by unfold wd5; rw [if_neg (by omega), if_neg (by omega), if_pos (by omega)]) (by omega)
        · rw [if_neg d8]
          exact step _ (by unfold wd5; rw [if_neg (by omega), if_pos (by omega)]) (by omega)
      · rw [if_neg d4]
        exact step _ (by unfold wd5; rw [if_pos (by omega)]) (by omega)
  · rw [if_neg (by omega)]; rw [if_neg e] at h; exact h _ (RM_N R' (by omega)) f
