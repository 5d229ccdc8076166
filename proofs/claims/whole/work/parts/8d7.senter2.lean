/-! ===== enter of the system: the call ===== -/
theorem pPlain_n {t : Tx} {a : Int} {k : Cont} (h : pPlain t a = .inr k) : pcN k = 0 := by
  unfold pPlain at h
  split at h
  · cases h
  · split at h
    · cases h; rfl
    · by_cases np : numP (subL t a (t.2.1 - a).toNat)
      · rw [ci_1 np] at h; cases h; rfl
      · rw [ci_0 np] at h
        split at h
        · cases h; rfl
        · split at h
          · cases h; rfl
          · split at h
            · cases h; rfl
            · cases h
theorem pRd_n {S : SS} {k : Cont} (hB : Bd S) (hI : ∀ v, isShP v S → IdS (shOf v S)) (h : pRd S = .inr k) : pcN k ≤ 60 := by
  have ab := tA_b (S := S) hB.1.1
  unfold pRd at h
  split at h
  · next c =>
    split at h
    · cases h
    · next ps he =>
      cases h
      exact (pForm_f hI (by have := hB.2.1.1; omega) ab.1 c.1 he).1.1.2
  · rw [pPlain_n h]; omega
theorem o_enter {z : Z} {b : Nat → Nat} {I : Nat → Prop} {S : SS} {r c : Int} {cc ss : Nat} {P : Int → Z → Prop} {X : Nat → Z → Prop} (R : RC z b I S) (hI : ∀ v, isShP v S → IdS (shOf v S)) (hcc : 3 * S.1.1 + 8 ≤ (cc : Int)) (hss : 14 * S.1.1 + 450 ≤ (ss : Int)) (hx1 : (pEnter r c S).1 = 1 → X 0 z) (hx2 : (pEnter r c S).1 = 2 → ∀ y J, GrI z I J → FrZ (WL z b wRd no1 no1) z y → RC y b J (pEnter r c S).2.2 → zO y (b 0) 11 = zO z (b 0) 11 → X 1 y) (hx3 : (pEnter r c S).1 = 3 → ∀ y J, GrI z I J → FrZ (WL z b wRd no1 no1) z y → RC y b J (pEnter r c S).2.2 → zO y (b 0) 11 = zO z (b 0) 11 → X 2 y) (h : (pEnter r c S).1 = 0 → ∀ y J, GrI z I J → FrZ (WL z b wEnC (wkT z b) no1) z y → RC y b J (pEnter r c S).2.2 → WkN z y b → P (pEnter r c S).2.1 y) : F_X11_enter (b 0) r c z cc ss P X := by
  obtain ⟨cw, fr, ht, hl, hb, hk, hq⟩ := id R
  have hB := RC_Bd R
  have bT := hB.1
  obtain ⟨wa, hwa, sw⟩ := hk.1
  obtain ⟨ra0, ca0, xa0, Sp0, -⟩ := id sw
  have hM := hb.2.2.2.1.2
  have e14 := hb.2.2.2.1.1
  unfold F_X11_enter
  refine ⟨cK cw 0 rfl rfl, wa, hwa, ShC_7 sw, k_has Sp0 ?_⟩
  by_cases eh : hasS S.2.2.2.1.1 r c
  rotate_left
  · rw [show tb ((1 ≤ r ∧ r ≤ S.2.2.2.1.1.1.1) ∧ 1 ≤ c ∧ c ≤ S.2.2.2.1.1.1.2) = 0 by rw [tb, if_neg eh], if_pos rfl]
    exact ⟨by omega, by omega, hx1 (by unfold pEnter; rw [if_neg eh])⟩
  rw [show tb ((1 ≤ r ∧ r ≤ S.2.2.2.1.1.1.1) ∧ 1 ≤ c ∧ c ≤ S.2.2.2.1.1.1.2) = 1 by rw [tb, if_pos eh], if_neg (by decide)]
  refine ⟨b 1, cO cw 0 0 1 (by decide), cK cw 1 rfl rfl, (3 * S.1.1 + 5).toNat, (14 * S.1.1 + 77).toNat, by omega, by omega, ?_⟩
  rw [hwa, cO cw 0 2 3 (by decide)]
  have toW : ∀ y, FrZ (WB b wRd) z y → FrZ (WL z b wEnC (wkT z b) no1) z y := fun y f => FrZ_mono f (fun a i _ hw => by
    obtain ⟨t, t1, t2⟩ := hw
    exact Or.inl ⟨t, (by decide : ∀ t ∈ wRd, t ∈ wEnC) t t1, t2⟩)
  have toW0 : ∀ y, FrZ (WB b wRd) z y → FrZ (WL z b wRd no1 no1) z y := fun y f => FrZ_mono f (fun a i _ hw => by
    obtain ⟨t, t1, t2⟩ := hw
    exact Or.inl ⟨t, t1, t2⟩)
  have o11 : ∀ y, FrZ (WB b wRd) z y → zO y (b 0) 11 = zO z (b 0) 11 := fun y f => (bB cw f (R := [(0, some 11)]) (by decide) (k := 0) (by decide) (wHas_i (by decide))).2.2
  unfold pEnter at hx1 hx2 hx3 h
  rw [if_pos eh] at hx1 hx2 hx3 h
  refine o_read R hwa hI (by omega) (by omega) (fun e y he e0 fy hJ => ?_) (fun k q y J he fy iJ Ry cq => ?_)
  · obtain ⟨J, iJ, Ry⟩ := hJ
    rw [he] at hx2
    simp only at hx2
    refine ⟨cK Ry.1 0 rfl rfl, b 1, cO Ry.1 0 0 1 (by decide), cK Ry.1 1 rfl rfl, ?_⟩
    have y4 : zI y (b 1) 4 = e.1 := Ry.2.2.1.2.2.1
    rw [y4, if_neg (by omega)]
    exact ⟨by omega, by omega, hx2 trivial y J iJ (toW0 y fy) Ry (o11 y fy)⟩
  · rw [he] at hx3 h
    simp only at hx3 h
    have pk := pRd_n hB hI he
    refine ⟨cK Ry.1 0 rfl rfl, b 1, cO Ry.1 0 0 1 (by decide), cK Ry.1 1 rfl rfl, ?_⟩
    have y4 : zI y (b 1) 4 = 0 := Ry.2.2.1.2.2.1
    rw [y4, if_pos rfl]
    refine o_partsOf cq ?_
    have y14 : zI y (b 0) 14 = S.2.2.1.2.2.2.1 := Ry.2.2.2.2.1.2.2.2.1.1
    rw [y14, w32e (x := 60000 - S.2.2.1.2.2.2.1) (by omega) (by omega)]
    by_cases c6 : S.2.2.1.2.2.2.1 + (pcN k : Int) ≤ 60000
    · rw [if_pos c6] at h
      rw [if_pos (by omega), w32e (x := S.2.2.1.2.2.2.1 + (pcN k : Int)) (by omega) (by omega)]
      rintro _ rfl
      obtain ⟨R1, f1⟩ := RC_14 (m := S.2.2.1.2.2.2.1 + (pcN k : Int)) Ry ⟨by omega, c6⟩
      have cq1 : ContC (wI y (b 0) 14 (S.2.2.1.2.2.2.1 + (pcN k : Int))) J q k := ContC_fr f1 (WL_I Ry.2.1) cq
      have z11 : zO (wI y (b 0) 14 (S.2.2.1.2.2.2.1 + (pcN k : Int))) (b 0) 11 = some wa := (o11 y fy).trans hwa
      generalize wI y (b 0) 14 (S.2.2.1.2.2.2.1 + (pcN k : Int)) = z1 at R1 f1 cq1 z11
      obtain ⟨cw1, fr1, -, -, -, hk1, -⟩ := id R1
      obtain ⟨wa1, hwa1, sw1⟩ := hk1.1
      have sw1' : ShC z1 J wa1 S.2.2.2.1.1 := sw1
      refine ⟨wa1, hwa1, ShC_7 sw1', 2, 324, by omega, by omega, ?_⟩
      refine NS_twin sw1' (Nat.le_refl _) (Nat.le_refl _) (fun q0 x ra ca xa y0 ⟨⟨i1, i2⟩, Sp⟩ g4 g5 g6 N0 => ?_)
      have fn := N0.2.2.2.1
      have kra : zK z1 ra ≠ 0 := by rw [Sp.2.2.2.2.1]; decide
      have kca : zK z1 ca ≠ 0 := by rw [Sp.2.2.2.2.2.1]; decide
      have cq2 : ContC y0 J q k := ContC_nw fn cq1
      refine ⟨q0, rfl, N0.2.2.2.2.1.1, NS_put N0 eh.1 eh.2 (fun g hg => (ContC_k cq2 g hg).1) (fun y1 NY fx => ?_)⟩
      have nIx : ¬ J x := fun g => (fr1 x g).1 N0.2.1
      have fny := NY.2.2.2.1
      have Ry1 := RC_nW fny R1
      have hcell : ∀ a d, 0 ≤ a → a < S.2.2.2.1.1.1.1 → 0 ≤ d → d < S.2.2.2.1.1.1.2 → ContC y1 J (if a = r - 1 ∧ d = c - 1 then q else zO z1 xa (a * S.2.2.2.1.1.1.2 + d)) (if a = r - 1 ∧ d = c - 1 then k else S.2.2.2.1.1.2.2.2 a d) := fun a d a0 a1 d0 d1 => by
        by_cases qq : a = r - 1 ∧ d = c - 1
        · rw [if_pos qq, if_pos qq]
          exact ContC_fr fx (fun t _ ht g => nIx (g ▸ ht)) cq2
        · rw [if_neg qq, if_neg qq]; exact ContC_nw fny (g6 a d a0 a1 d0 d1)
      obtain ⟨sq, RJ⟩ := NS_fix (s := updS S.2.2.2.1.1 (r - 1) (c - 1) k) cw1 Ry1 NY i1 i2 (fun kk a d => by rw [(fny.2 ra kk kra (fun w => w)).1]; exact g4 kk a d) (fun kk a d => by rw [(fny.2 ca kk kca (fun w => w)).1]; exact g5 kk a d) hcell
      refine ⟨cK RJ.1 0 rfl rfl, o_step RJ sq (fun w fw ew Rw => ?_)⟩
      have kb0 : zK z1 (b 0) ≠ 0 := by rw [cK cw1 0 rfl rfl]; decide
      have ey11 : zO y1 (b 0) 11 = some wa := ((fny.2 (b 0) 11 kb0 (fun w => w)).2.2).trans z11
      refine h rfl w _ ⟨fun a ha => Or.inl (iJ.1 a ha), fun a ha => ha.elim (iJ.2 a) (fun e => Or.inr (by rw [e]; exact new_of fy (new_of f1 NY.2.1)))⟩ ?_ Rw (WkN_pre cw (toW0 y fy) (by decide) (WkN_pre Ry.1 f1 (by decide) (WkN_nw cw1 fny NY.1 NY.2.2.2.2.2.1 RJ.1 (ShC_7 sq) fw ew)))
      refine FrZ_wl (y := y) (toW y fy) (FrZ_wl (y := z1) (FrZ_mono f1 (fun a i _ hw => ?_)) (FrZ_wl (y := y1) (FrZ_mono fny (fun _ _ _ hw => hw.elim)) (FrZ_mono fw (fun a i ha hw => ?_))))
      · rcases hw with ⟨t, t1, t2⟩ | hw | hw
        · exact Or.inl ⟨t, (by decide : ∀ t ∈ [(0, some (14 : Int))], t ∈ wEnC) t t1, t2⟩
        · exact absurd hw.1 id
        · exact absurd hw.1 id
      · rcases hw with ⟨t, t1, t2⟩ | hw | hw
        · exact Or.inl ⟨t, (by decide : ∀ t ∈ wSt, t ∈ wEnC) t t1, t2⟩
        · refine Or.inr (Or.inl ⟨?_, hw.2⟩)
          show zO z (b 0) 11 = some a
          rw [hwa, ← ey11]; exact hw.1
        · exact absurd hw.1 id
    · rw [if_neg c6] at hx3
      rw [if_neg (by omega)]
      exact ⟨by omega, by omega, hx3 rfl y J iJ (toW0 y fy) Ry (o11 y fy)⟩
