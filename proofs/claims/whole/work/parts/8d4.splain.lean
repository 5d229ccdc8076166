/-! ===== a plain entry, of the system ===== -/
theorem TxC_n {t : Tx} {z y : Z} {b : Nat → Nat} (f : FrZ nW z y) (C : TxC t z b) : TxC t y b := TxC_f (FrZ_mono f (fun _ _ _ h => h.elim)) C
theorem o_valN {z : Z} {n : Int} {a : Nat} {c' s' : Nat} {P : Z → Prop} (ha : zK z a = 0) (n0 : 0 ≤ n ∧ n ≤ 400) (hc : 1 ≤ c') (hs : n ≤ (s' : Int)) (h : ∀ y ba, FrZ nW z y → zK y a = 9 → zO y a 0 = some ba → zK y ba = 14 → zN y ba = n → ba ≠ a → zK z ba = 0 → P y) : F_X8_init a n (nZ z a 9 0) c' s' P := by
  unfold F_X8_init
  rw [show max n 0 = n by omega]
  refine ⟨n0.1, by omega, hc, by omega, fun ba hb z1 e1 => ?_⟩
  subst e1
  have hab : ba ≠ a := fun e => by rw [e, zK_nZ, if_pos rfl] at hb; cases hb
  have hb0 : zK z ba = 0 := by rw [zK_nZ, if_neg hab] at hb; exact hb
  refine ⟨by rw [zK_nZ, if_neg hab.symm, zK_nZ, if_pos rfl], ?_⟩
  rintro _ rfl
  refine h _ ba (FrZ_wO (FrZ_nZ (FrZ_nZ FrZ_rf ha) hb) (Or.inr ha)) ?_ ?_ ?_ ?_ hab hb0
  · rw [zK_wO, zK_nZ, if_neg hab.symm, zK_nZ, if_pos rfl]
  · rw [zO_wO, if_pos ⟨rfl, rfl⟩]
  · rw [zK_wO, zK_nZ, if_pos rfl]
  · rw [zN_wO, zN_nZ, if_pos rfl]
theorem o_nbO {t : Tx} {z : Z} {b : Nat → Nat} {a : Int} {P : Int → Prop} (C : TxC t z b) (a0 : 0 ≤ a) (a1 : a < t.2.1) (np : numP (subL t a (t.2.1 - a).toNat)) (h : P (nbV t a)) : F_X5_numberOf (b 1) a z P := by
  have b3 := C.2.2.1
  obtain ⟨q1, q2⟩ := (numP_i (t := t) (a := a) (n := (t.2.1 - a).toNat) (by omega)).mp np
  have nb := nbV_b a1 np
  -- where the digits begin
  generalize hs : a + (if bt t a = 45 then 1 else 0) = s0 at q2
  have sb : a ≤ s0 ∧ s0 ≤ a + 1 ∧ t.2.1 - s0 ≤ 15 ∧ s0 < t.2.1 := by
    by_cases c : bt t a = 45
    · rw [if_pos c] at hs q1; omega
    · rw [if_neg c] at hs q1; omega
  unfold F_X5_numberOf F_X5_numberOf_5
  refine lp_I (S := Int × Int) (fun s => (a ≤ s.2 ∧ s.2 ≤ t.2.1) ∧ ((s.2 < s0 ∧ s.1 = 0) ∨ (s0 ≤ s.2 ∧ numV t (t.2.1 - s.2).toNat s.2 s.1 = numV t (t.2.1 - s0).toNat s0 0 ∧ 0 ≤ s.1 ∧ s.1 < 10 ^ (s.2 - s0).toNat))) (fun s => (t.2.1 - s.2).toNat) ?_ (0, a) ⟨⟨Int.le_refl _, by show a ≤ t.2.1; omega⟩, ?_⟩
  · rintro G ⟨v, x⟩ ⟨⟨x0, x1⟩, hv⟩ ih
    simp only at x0 x1 hv
    unfold L_X5_numberOf_5 F_X5_numberOf_49
    dsimp only
    refine ⟨cK C.1 1 rfl rfl, ?_⟩
    rw [C.2.1.2]
    by_cases ce : t.2.1 ≤ x
    · rw [if_pos ce]
      have ex : x = t.2.1 := by omega
      rcases hv with ⟨q, -⟩ | ⟨-, e, -, -⟩
      · omega
      · rw [ex, show (t.2.1 - t.2.1).toNat = 0 by omega, numV] at e
        show (zK z (b 1) = 6 ∧ _)
        unfold F_X5_numberOf_73
        refine ⟨cK C.1 1 rfl rfl, b 11, cO C.1 1 0 11 (by decide), cK C.1 11 rfl rfl, a0, by rw [cN C.1 11 (c := 400) rfl rfl]; omega, ?_⟩
        rw [sb_is C a0 a1]
        by_cases c45 : bt t a = 45
        · rw [if_pos ((sb_i C (by decide) (by decide)).mpr c45)]
          rw [if_pos c45] at hs
          have ev : nbV t a = - v := by unfold nbV; rw [if_pos c45, e, ← hs, show t.2.1 - a - 1 = t.2.1 - (a + 1) by omega]
          rw [w64e (by omega) (by omega), ← ev]; exact h
        · rw [if_neg (fun q => c45 ((sb_i C (by decide) (by decide)).mp q))]
          rw [if_neg c45] at hs
          have ev : nbV t a = v := by unfold nbV; rw [if_neg c45, e, ← hs, show a + 0 = a by omega]
          rw [← ev]; exact h
    · rw [if_neg ce]
      refine ⟨b 11, cO C.1 1 0 11 (by decide), cK C.1 11 rfl rfl, by omega, by rw [cN C.1 11 (c := 400) rfl rfl]; omega, ?_⟩
      rw [sb_is C (by omega) (by omega), w32e (x := x + 1) (by omega) (by omega)]
      have m : ((t.2.1 - (x + 1)).toNat) < (t.2.1 - x).toNat := by omega
      refine o_dig C (fun d => ?_) (fun d => ?_)
      · rw [if_neg (by decide)]
        rcases hv with ⟨q, -⟩ | ⟨q, e, v0, vp⟩
        · exfalso
          have ea : x = a := by omega
          by_cases c45 : bt t a = 45
          · rw [ea, c45] at d; cases d
          · rw [if_neg c45] at hs; omega
        · have dd := dgB_i.mp d
          unfold dgP at dd
          have sv := sb_v C x
          have es : sbt t x = bt t x := by omega
          have p15 := pow15 (x - s0).toNat (by omega)
          rw [es, w64e (x := v * 10) (by omega) (by omega), w64e (x := v * 10 + bt t x) (by omega) (by omega), w64e (x := v * 10 + bt t x - 48) (by omega) (by omega)]
          refine ih (v * 10 + bt t x - 48, x + 1) ⟨⟨by show a ≤ x + 1; omega, by show x + 1 ≤ t.2.1; omega⟩, Or.inr ⟨by show s0 ≤ x + 1; omega, ?_, by show 0 ≤ v * 10 + bt t x - 48; omega, ?_⟩⟩ m
          · rw [← e, show (t.2.1 - x).toNat = (t.2.1 - (x + 1)).toNat + 1 by omega, numV]
          · show v * 10 + bt t x - 48 < 10 ^ (x + 1 - s0).toNat
            rw [show (x + 1 - s0).toNat = (x - s0).toNat + 1 by omega, Int.pow_succ]; omega
      · rw [if_pos rfl]
        rcases hv with ⟨q, ev⟩ | ⟨q, e, v0, vp⟩
        · have ea : x = a := by omega
          have es0 : s0 = a + 1 := by omega
          refine ih (v, x + 1) ⟨⟨by show a ≤ x + 1; omega, by show x + 1 ≤ t.2.1; omega⟩, Or.inr ⟨by show s0 ≤ x + 1; omega, ?_, by show 0 ≤ v; omega, ?_⟩⟩ m
          · show numV t (t.2.1 - (x + 1)).toNat (x + 1) v = _
            rw [ev, ea, es0]
          · show v < 10 ^ (x + 1 - s0).toNat
            rw [ev, show (x + 1 - s0).toNat = 0 by omega]; decide
        · exfalso
          have := q2 x (by omega) (by omega)
          rw [d] at this; cases this
  · by_cases c : s0 = a
    · right
      exact ⟨by show s0 ≤ a; omega, by show numV t (t.2.1 - a).toNat a 0 = _; rw [c], Int.le_refl 0, by show (0 : Int) < 10 ^ (a - s0).toNat; rw [show (a - s0).toNat = 0 by omega]; decide⟩
    · left
      exact ⟨by show a < s0; omega, rfl⟩
theorem o_169 {t : Tx} {z0 y : Z} {b : Nat → Nat} {I : Nat → Prop} {a ba : Nat} {l : Lit} {c s : Nat} {P : Option Nat → Z → Prop} (C : TxC t z0 b) (r : Frz z0 b I) (f : FrZ nW z0 y) (na : zK z0 a = 0) (nb : zK z0 ba = 0) (V : VlS y a ba l) (h5 : l.1 ≠ 5) (hc : 1 ≤ c) (hs : 3 ≤ s) (h : ∀ q y2 J, FrZ nW z0 y2 → GrI z0 I J → Frz y2 b J → ContC y2 J (some q) (some (l.1, l, [])) → P (some q) y2) : F_X5_plain_169 (b 1) (some a) y c s P := by
  have Cy := TxC_n f C
  obtain ⟨⟨ka, i1, oa, kb⟩, vt⟩ := V
  unfold F_X5_plain_169
  refine ⟨hc, hs, fun q hq z1 e1 => ?_⟩
  subst e1
  have qa : q ≠ a := fun e => by rw [e, ka] at hq; cases hq
  have qb : q ≠ ba := fun e => by rw [e, kb] at hq; cases hq
  have fq : FrZ nW y (nZ y q 2 0) := FrZ_nZ FrZ_rf hq
  have kq1 : zK (nZ y q 2 0) a = 9 := by rw [zK_nZ, if_neg (fun e => qa e.symm)]; exact ka
  have Cq := TxC_n fq Cy
  refine ⟨a, rfl, kq1, cK Cq.1 1 rfl rfl, ?_⟩
  rw [cO Cq.1 1 2 13 (by decide), zI_nZ, if_neg (fun e => qa e.symm), i1]
  unfold F_X1_init
  refine ⟨by rw [zK_nZ, if_pos rfl], ?_⟩
  rintro _ rfl _ rfl _ rfl
  have f3 : FrZ nW y (wO (wO (wI (nZ y q 2 0) q 0 l.1) q 1 (some a)) q 2 (some (b 13))) := FrZ_wO (FrZ_wO (FrZ_wI (FrZ_nZ FrZ_rf hq) (Or.inr hq)) (Or.inr hq)) (Or.inr hq)
  have kq : zK (wO (wO (wI (nZ y q 2 0) q 0 l.1) q 1 (some a)) q 2 (some (b 13))) q = 2 := by simp [zK_wO, zK_wI, zK_nZ]
  have i0 : zI (wO (wO (wI (nZ y q 2 0) q 0 l.1) q 1 (some a)) q 2 (some (b 13))) q 0 = l.1 := by simp [zI_wO, zI_wI]
  have o1 : zO (wO (wO (wI (nZ y q 2 0) q 0 l.1) q 1 (some a)) q 2 (some (b 13))) q 1 = some a := by simp [zO_wO]
  have o2 : zO (wO (wO (wI (nZ y q 2 0) q 0 l.1) q 1 (some a)) q 2 (some (b 13))) q 2 = some (b 13) := by simp [zO_wO]
  generalize wO (wO (wI (nZ y q 2 0) q 0 l.1) q 1 (some a)) q 2 (some (b 13)) = v at f3 kq i0 o1 o2
  have C3 := TxC_n f3 Cy
  have nq0 : zK z0 q = 0 := by
    apply Classical.byContradiction
    intro n
    have := (f.1 q n).1
    rw [hq] at this
    exact n this.symm
  have ka0 : zK y a ≠ 0 := by rw [ka]; decide
  have kb0 : zK y ba ≠ 0 := by rw [kb]; decide
  have kav : zK v a = 9 := (f3.1 a ka0).1.trans ka
  have kbv : zK v ba = 14 := (f3.1 ba kb0).1.trans kb
  have nk : ∀ x, zK z0 x = 0 → ∀ k, k < 35 → x ≠ b k := fun x hx k hk e => (ckz_k k hk).2.2 (by rw [← (C.1.1 k hk).1, ← e]; exact hx)
  refine h q v (fun x => I x ∨ x = a ∨ x = ba ∨ x = q) (FrZ_tr f f3) ⟨fun x ix => Or.inl ix, fun x hx => hx.imp id (fun e => e.elim (fun e => by rw [e]; exact na) (fun e => e.elim (fun e => by rw [e]; exact nb) (fun e => by rw [e]; exact nq0)))⟩ ?_ ?_
  · intro x hx
    rcases hx with ix | e | e | e
    · obtain ⟨h1, h2, h3, h4⟩ := r x ix
      have e1 := ((FrZ_tr f f3).1 x h1).1
      rw [e1]; exact ⟨h1, h2, h3, h4⟩
    · rw [e]; exact ⟨by rw [kav]; decide, by rw [kav]; decide, by rw [kav]; decide, nk a na⟩
    · rw [e]; exact ⟨by rw [kbv]; decide, by rw [kbv]; decide, by rw [kbv]; decide, nk ba nb⟩
    · rw [e]; exact ⟨by rw [kq]; decide, by rw [kq]; decide, by rw [kq]; decide, nk q nq0⟩
  · refine ⟨q, b 13, rfl, Or.inr (Or.inr (Or.inr rfl)), kq, i0, o2, fun n => absurd rfl n, cK C3.1 13 rfl rfl, cN C3.1 13 (c := 0) rfl rfl, (fun i hi => by cases hi), ?_⟩
    rw [if_neg h5]
    refine ⟨a, o1, Or.inr (Or.inl rfl), kav, (f3.2 a 1 ka0 (fun q => q)).1.trans i1, ba, (f3.2 a 0 ka0 (fun q => q)).2.2.trans oa, Or.inr (Or.inr (Or.inl rfl)), kbv, ?_⟩
    unfold VlT at vt
    split at vt
    · next c2 =>
      rw [if_pos c2]
      obtain ⟨g1, g2, g3, g4⟩ := vt
      exact ⟨(f3.2 a 2 ka0 (fun q => q)).2.1.trans g1, by rw [(f3.1 ba kb0).2]; exact g2, g3, fun i hi => (f3.2 ba i kb0 (fun q => q)).1.trans (g4 i hi)⟩
    · next c2 =>
      rw [if_neg c2]
      exact ⟨(f3.2 a 2 ka0 (fun q => q)).2.1.trans vt.1, vt.2⟩
theorem o_plainE {t : Tx} {z : Z} {b : Nat → Nat} {I : Nat → Prop} {a : Int} {c s : Nat} {P : Option Nat → Z → Prop} (C : TxC t z b) (r : Frz z b I) (h4 : zI z (b 1) 4 = 0) (a0 : 0 ≤ a) (a1 : a < t.2.1) (hout : ∀ k, 0 ≤ k → k < t.2.2 → ¬ (a ≤ k ∧ k < t.2.1) → zI z (b 11) k = 32) (hc : 3 ≤ c) (hs : 31 ≤ s) (hf : ∀ e y, pPlain t a = .inl e → FrZ (WB b [(1, some 4), (1, some 5)]) z y → zI y (b 1) 4 = e.1 → zI y (b 1) 5 = e.2 → 0 < e.1 → P none y) (hk : ∀ k q y J, pPlain t a = .inr k → FrZ nW z y → GrI z I J → Frz y b J → ContC y J (some q) k → P (some q) y) : F_X5_plain (b 1) a z c s P := by
  have b3 := C.2.2.1
  have rb0 := rn_b (p := plB) (t := t) plB_n a0
  have fail : ∀ (y : Z) k p, FrZ nW z y → pPlain t a = .inl (k, p) → 0 < k → F_X5_fail (b 1) k p y (fun x => P none x) := by
    intro y k p f he hk0
    have Cy := TxC_n f C
    have kb : zK z (b 1) ≠ 0 := by rw [(C.1.1 1 (by decide)).1]; exact (ckz_k 1 (by decide)).2.2
    unfold F_X5_fail F_X5_fail_17
    refine ⟨cK Cy.1 1 rfl rfl, ?_⟩
    rw [(f.2 (b 1) 4 kb (fun q => q)).1, if_pos h4]
    rintro _ rfl _ rfl
    refine hf (k, p) _ he (FrZ_tr (FrZ_mono f (fun _ _ _ h => h.elim)) (FrZ_wI (FrZ_wI FrZ_rf (Or.inl (WB_i (by decide) (by decide)))) (Or.inl (WB_i (by decide) (by decide))))) ?_ ?_ hk0
    · rw [zI_wI, if_neg (by omega), zI_wI, if_pos ⟨rfl, rfl⟩]
    · rw [zI_wI, if_pos ⟨rfl, rfl⟩]
  unfold F_X5_plain F_X5_plain_2
  refine lp_I (fun x => (0 ≤ x ∧ x ≤ t.2.2) ∧ ∀ j, a ≤ j → j < x → j < t.2.1 → plB (bt t j) = true) (fun x => (t.2.2 - x).toNat) ?_ 0 ⟨⟨Int.le_refl 0, by omega⟩, fun j h1 h2 => by omega⟩
  rintro G x ⟨⟨x0, x1⟩, hx⟩ ih
  unfold L_X5_plain_2
  refine ⟨cK C.1 1 rfl rfl, ?_⟩
  rw [C.2.1.1]
  by_cases ce : t.2.2 ≤ x
  · rw [if_pos ce]
    have dg : ∀ j, a ≤ j → j < t.2.1 → plB (bt t j) = true := fun j h1 h2 => hx j h1 (by omega) h2
    have nr : ¬ rn plB t a < t.2.1 := fun q => by have := dg _ rb0.1 q; rw [rb0.2.2.1] at this; cases this
    have pe : pPlain t a = ci (numP (subL t a (t.2.1 - a).toNat)) (.inr (some (1, (1, nbV t a, []), []))) (if subL t a (t.2.1 - a).toNat = sL 0 then .inr (some (3, (3, 1, []), [])) else if subL t a (t.2.1 - a).toNat = sL 1 then .inr (some (3, (3, 0, []), [])) else if t.2.1 - txF t a ≤ 24 then .inr (some (2, (2, 0, subL t (txF t a) (t.2.1 - txF t a).toNat), [])) else .inl (6, txF t a + 24)) := by unfold pPlain; rw [if_neg nr, if_neg (by omega)]
    show (1 ≤ c ∧ 4 ≤ s ∧ _)
    refine ⟨by omega, by omega, fun v hv z1 e1 => ?_⟩
    subst e1
    refine ⟨1, 24, by omega, by omega, o_valN hv ⟨by decide, by decide⟩ (by decide) (by decide) (fun y ba f kv ov kb nb hab nba => ?_)⟩
    have Cy := TxC_n f C
    have B : VlB y v ba := ⟨kv, ov, kb, nb⟩
    have V2 : ∀ (y2 : Z), FrZ (VW v ba) y y2 → FrZ nW z y2 := fun y2 f2 => by
      refine ⟨fun x' hx' => ?_, fun x' i hx' hn => ?_⟩
      · obtain ⟨p1, p2⟩ := f.1 x' hx'
        obtain ⟨q1, q2⟩ := f2.1 x' (by rw [p1]; exact hx')
        exact ⟨q1.trans p1, q2.trans p2⟩
      · obtain ⟨p1, p2, p3⟩ := f.2 x' i hx' hn
        have nw : ¬ VW v ba x' i := by
          rintro (⟨e, -⟩ | e)
          · exact hx' (by rw [e]; exact hv)
          · exact hx' (by rw [e]; exact nba)
        obtain ⟨q1, q2, q3⟩ := f2.2 x' i (by rw [(f.1 x' hx').1]; exact hx') nw
        exact ⟨q1.trans p1, q2.trans p2, q3.trans p3⟩
    have fin : ∀ (y2 : Z) (l : Lit) (c2 s2 : Nat), FrZ (VW v ba) y y2 → VlS y2 v ba l → l.1 ≠ 5 → pPlain t a = .inr (some (l.1, l, [])) → 1 ≤ c2 → 3 ≤ s2 → F_X5_plain_169 (b 1) (some v) y2 c2 s2 P := by
      intro y2 l c2 s2 f2 vs l5 he h1 h3
      exact o_169 C r (V2 y2 f2) hv nba vs l5 h1 h3 (fun q y3 J g1 g2 g3 g4 => hk _ q y3 J he g1 g2 g3 g4)
    have bts : ∀ f' : Int, a ≤ f' → f' ≤ t.2.1 → BtC y (b 11) f' (subL t f' (t.2.1 - f').toNat) := by
      intro f' h1 h2
      refine ⟨cK Cy.1 11 rfl rfl, by omega, by rw [subL_len, cN Cy.1 11 (c := 400) rfl rfl]; omega, fun i hi => ?_⟩
      rw [subL_len] at hi
      rw [subL_at hi, sb_is Cy (by omega) (by omega)]
      have pl := plB_i.mp (dg (f' + i) (by omega) (by omega))
      have sv := sb_v Cy (f' + i)
      omega
    refine ⟨cK Cy.1 1 rfl rfl, ?_⟩
    rw [cO Cy.1 1 0 11 (by decide), Cy.2.1.2]
    refine o_isNumber (bts a (Int.le_refl _) (by omega)) (by rw [subL_len]; omega) (by omega) (fun np => ?_) (fun np => ?_)
    · rw [if_neg (by decide)]
      rw [ci_1 np] at pe
      refine o_nbO Cy a0 a1 np ⟨kv, k_set B (by decide) (fun y2 vs _ f2 => ?_)⟩
      exact fin y2 _ _ _ f2 vs (by show (1 : Int) ≠ 5; decide) pe (by omega) (by omega)
    · rw [if_pos rfl]
      rw [ci_0 np] at pe
      refine o_isTruth (bts a (Int.le_refl _) (by omega)) (by rw [subL_len]; omega) (by omega) (fun tr => ?_) (fun tr => ?_)
      · rw [if_neg (by decide)]
        refine ⟨b 11, rfl, cK Cy.1 11 rfl rfl, a0, by rw [cN Cy.1 11 (c := 400) rfl rfl]; omega, ?_⟩
        rw [sb_is Cy a0 a1]
        have w0 : (subL t a (t.2.1 - a).toNat).getD 0 0 = bt t a := by rw [subL_at (by omega)]; congr 1; omega
        unfold F_X5_plain_106 F_X8_setTruth F_X8_setTruth_11
        by_cases t0 : subL t a (t.2.1 - a).toNat = sL 0
        · rw [if_pos t0] at pe
          rw [t0, sL_01.1] at w0
          rw [if_pos ((sb_i Cy (by decide) (by decide)).mpr w0.symm)]
          refine ⟨v, rfl, kv, ?_⟩
          rw [if_neg (by decide)]
          refine ⟨v, rfl, kv, k_set B (by decide) (fun y2 vs _ f2 => ?_)⟩
          exact fin y2 _ _ _ f2 vs (by show (3 : Int) ≠ 5; decide) pe (by omega) (by omega)
        · have t1 := tr.resolve_left t0
          rw [if_neg t0, if_pos t1] at pe
          rw [t1, sL_01.2.1] at w0
          rw [if_neg (fun q => by have := (sb_i Cy (by decide) (by decide)).mp q; omega)]
          refine ⟨v, rfl, kv, ?_⟩
          rw [if_pos rfl]
          refine ⟨v, rfl, kv, k_set B (by decide) (fun y2 vs _ f2 => ?_)⟩
          exact fin y2 _ _ _ f2 vs (by show (3 : Int) ≠ 5; decide) pe (by omega) (by omega)
      · rw [if_pos rfl]
        rw [if_neg (fun q => tr (Or.inl q)), if_neg (fun q => tr (Or.inr q))] at pe
        refine ⟨b 11, rfl, cK Cy.1 11 rfl rfl, a0, by rw [cN Cy.1 11 (c := 400) rfl rfl]; omega, ?_⟩
        rw [sb_is Cy a0 a1]
        have txt : ∀ f', f' = txF t a → (a ≤ f' ∧ f' ≤ t.2.1) → F_X5_plain_130 (b 1) (some v) f' y (c - 1 - 1) (s - 4 - 24) P := by
          intro f' hf' fb
          rw [← hf'] at pe
          unfold F_X5_plain_130
          refine ⟨cK Cy.1 1 rfl rfl, ?_⟩
          rw [Cy.2.1.2, w32e (x := t.2.1 - f') (by omega) (by omega)]
          by_cases c24 : t.2.1 - f' ≤ 24
          · rw [if_pos c24]
            rw [if_pos c24] at pe
            refine ⟨v, rfl, kv, ?_⟩
            rw [cO Cy.1 1 0 11 (by decide)]
            have bt' := bts f' fb.1 fb.2
            refine k_setBytes (bs := subL t f' (t.2.1 - f').toNat) B (cK Cy.1 11 rfl rfl) (by rw [subL_len]; omega) (by rw [subL_len]; omega) (by omega) (by rw [cN Cy.1 11 (c := 400) rfl rfl]; omega) (by rw [cN Cy.1 11 (c := 400) rfl rfl]; decide) bt'.2.2.2 (fun y2 vs _ f2 => ?_)
            have ef : fitL (subL t f' (t.2.1 - f').toNat) = (2, 0, subL t f' (t.2.1 - f').toNat) := by unfold fitL; rw [if_pos (by rw [subL_len]; omega)]
            rw [ef] at vs
            exact fin y2 _ _ _ f2 vs (by show (2 : Int) ≠ 5; decide) pe (by omega) (by omega)
          · rw [if_neg c24, w32e (x := f' + 24) (by omega) (by omega)]
            rw [if_neg c24] at pe
            exact fail y 6 (f' + 24) f pe (by decide)
        by_cases c39 : bt t a = 39
        · rw [if_pos ((sb_i Cy (by decide) (by decide)).mpr c39), w32e (x := a + 1) (by omega) (by omega)]
          exact txt _ (by unfold txF; rw [if_pos c39]) ⟨by omega, by omega⟩
        · rw [if_neg (fun q => c39 ((sb_i Cy (by decide) (by decide)).mp q))]
          exact txt _ (by unfold txF; rw [if_neg c39]) ⟨by omega, by omega⟩
  · rw [if_neg ce]
    refine ⟨b 11, cO C.1 1 0 11 (by decide), cK C.1 11 rfl rfl, x0, by rw [cN C.1 11 (c := 400) rfl rfl]; omega, ?_⟩
    have nx : (a ≤ x → x < t.2.1 → plB (bt t x) = true) → G (w32 (x + 1)) := by
      intro hq
      rw [w32e (by omega) (by omega)]
      refine ih (x + 1) ⟨⟨by omega, by omega⟩, fun j h1 h2 h3 => ?_⟩ (by omega)
      by_cases ej : j = x
      · rw [ej]; exact hq (by omega) (by omega)
      · exact hx j h1 (by omega) h3
    by_cases cin : a ≤ x ∧ x < t.2.1
    · rw [sb_is C x0 cin.2]
      refine o_pln C (fun d => ?_) (fun d => ?_)
      · rw [if_neg (by decide)]
        exact nx (fun _ _ => d)
      · rw [if_pos rfl]
        have ex : rn plB t a = x := by
          by_cases q1 : rn plB t a < x
          · have := hx _ rb0.1 q1 (by omega)
            rw [rb0.2.2.1] at this; cases this
          · by_cases q2 : x < rn plB t a
            · have := rb0.2.2.2 x cin.1 q2
              rw [d] at this; cases this
            · omega
        show (zK z (b 1) = 6 ∧ F_X5_fail (b 1) 1 x z (fun z_25 => P none z_25))
        exact ⟨cK C.1 1 rfl rfl, fail z 1 x FrZ_rf (by unfold pPlain; rw [if_pos (by omega), ex]) (by decide)⟩
    · rw [hout x x0 (by omega) cin]
      unfold F_X11_isPlain F_X11_isPlain_17
      rw [if_neg (show ¬ (32 : Int) < 32 by decide), if_neg (show ¬ (126 : Int) < 32 by decide)]
      refine ⟨z1_1, ?_⟩
      dsimp only
      rw [if_neg (show ¬ (1 : Int) = 0 by decide)]
      exact nx (fun h1 h2 => absurd ⟨h1, h2⟩ cin)
