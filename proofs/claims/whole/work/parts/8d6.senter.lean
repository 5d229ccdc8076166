/-! ===== enter of the system ===== -/
def wRd : WR := [(1, some 3), (1, some 4), (1, some 5), (1, some 6), (1, some 7), (1, some 8), (1, some 9), (1, some 10), (1, some 11), (1, some 12), (1, some 13), (1, some 14), (1, some 15), (1, some 16), (12, none)]
def wEnC : WR := wRd ++ [(0, some 14)] ++ wSt
theorem RC_rd {z y : Z} {b : Nat → Nat} {I J : Nat → Prop} {S : SS} {k p : Int} (R : RC z b I S) (f0 : FrZ (WB b wRd) z y) (iJ : ∀ a, I a → J a) (fJ : Frz y b J) (h3 : zI y (b 1) 3 = 0) (h4 : zI y (b 1) 4 = k) (h5 : zI y (b 1) 5 = p) : RC y b J (setT S k p) := by
  have f := WB_L f0
  obtain ⟨c, r, ht, hl, hb, hk, hq⟩ := R
  refine RC_I iJ fJ ⟨CWz_fr c f (by decide), Frz_fr r f, ⟨⟨h3, by show (0 : Int) ≤ 0; decide, by show (0 : Int) ≤ 400; decide⟩, fun i a d => ?_, h4, h5⟩, RCl_fr c r f (by decide) hl, RCb_fr c f (by decide) hb, RCk_fr c r f (by decide) hk, RCq_fr c r f (by decide) hq⟩
  rw [(bI c f (R := [(11, none)]) (by decide) (k := 11) (by decide) (i := i) (wHas_a (by decide))).1]
  exact ht.2.1 i a d
theorem RC_14 {z : Z} {b : Nat → Nat} {I : Nat → Prop} {S : SS} {m : Int} (R : RC z b I S) (hm : 0 ≤ m ∧ m ≤ 60000) : RC (wI z (b 0) 14 m) b I (setP S m) ∧ FrZ (WL z b [(0, some 14)] no1 no1) z (wI z (b 0) 14 m) := by
  obtain ⟨cw, fr, ht, hl, hb, hk, hq⟩ := R
  have f1 : FrZ (WL z b [(0, some 14)] no1 no1) z (wI z (b 0) 14 m) := FrZ_wI FrZ_rf (Or.inl (WL_i (by decide) (by decide)))
  have n09 : b 9 ≠ b 0 := cNe cw rfl rfl rfl
  refine ⟨⟨CWz_fr cw f1 (by decide), Frz_fr fr f1, RCt_fr cw f1 (by decide) ht, RCl_fr cw fr f1 (by decide) hl, ?_, RCk_fr cw fr f1 (by decide) hk, RCq_fr cw fr f1 (by decide) hq⟩, f1⟩
  obtain ⟨g1, g2, g3, g4, g5, g6, g7⟩ := hb
  unfold RCb
  simp only [zI_wI, if_neg (fun w : b 9 = b 0 ∧ _ => n09 w.1)]
  refine ⟨g1, by simp; exact g2, by simp; exact g3, ⟨by rw [if_pos ⟨trivial, trivial⟩]; rfl, hm.1, hm.2⟩, by simp; exact g5, by simp; exact g6, by simp; exact g7⟩
theorem pRd_l {S : SS} {e : Int × Int} (h1 : tA S < tE S) (h2 : S.1.2.1 (tA S) = 61) (h : pForm (tT S) S (tA S) = .inl e) : pRd S = .inl e := by unfold pRd; rw [if_pos ⟨h1, h2⟩, h]
theorem pRd_r {S : SS} {ps : List Prt} (h1 : tA S < tE S) (h2 : S.1.2.1 (tA S) = 61) (h : pForm (tT S) S (tA S) = .inr ps) : pRd S = .inr (some (5, (0, 0, []), ps)) := by unfold pRd; rw [if_pos ⟨h1, h2⟩, h]
/-- what is read -/
theorem o_read {z : Z} {b : Nat → Nat} {I : Nat → Prop} {S : SS} {wa : Nat} {c s : Nat} {P : Option Nat → Z → Prop} (R : RC z b I S) (hwa : zO z (b 0) 11 = some wa) (hI : ∀ v, isShP v S → IdS (shOf v S)) (hc : 3 * S.1.1 + 5 ≤ (c : Int)) (hs : 14 * S.1.1 + 77 ≤ (s : Int)) (hf : ∀ e y, pRd S = .inl e → 0 < e.1 → FrZ (WB b wRd) z y → (∃ J, GrI z I J ∧ RC y b J (setT S e.1 e.2)) → P none y) (hk : ∀ k q y J, pRd S = .inr k → FrZ (WB b wRd) z y → GrI z I J → RC y b J (setT S 0 (-1)) → ContC y J q k → P q y) : F_X5_read (b 1) (some wa) (some (b 3)) z c s P := by
  obtain ⟨cw, fr, ht, hl, hb, hkk, hq⟩ := id R
  have hB := RC_Bd R
  have bT := hB.1
  have ab := tA_b (S := S) bT.1
  have eb := tE_b (S := S) bT.1
  obtain ⟨wa', hwa', sw⟩ := hkk.1
  have ew : wa' = wa := by rw [hwa] at hwa'; cases hwa'; rfl
  subst ew
  unfold F_X5_read
  refine ⟨cK cw 1 rfl rfl, ?_⟩
  rintro _ rfl _ rfl _ rfl _ rfl
  have f1 : FrZ (WB b wRd) z (wI (wI (wO (wO z (b 1) 11 (some wa')) (b 1) 12 (some (b 3))) (b 1) 4 0) (b 1) 5 (-1)) := FrZ_wI (FrZ_wI (FrZ_wO (FrZ_wO FrZ_rf (Or.inl (WB_i (by decide) (by decide)))) (Or.inl (WB_i (by decide) (by decide)))) (Or.inl (WB_i (by decide) (by decide)))) (Or.inl (WB_i (by decide) (by decide)))
  have g11 : zO (wI (wI (wO (wO z (b 1) 11 (some wa')) (b 1) 12 (some (b 3))) (b 1) 4 0) (b 1) 5 (-1)) (b 1) 11 = some wa' := by simp [zO_wI, zO_wO]
  have g12 : zO (wI (wI (wO (wO z (b 1) 11 (some wa')) (b 1) 12 (some (b 3))) (b 1) 4 0) (b 1) 5 (-1)) (b 1) 12 = some (b 3) := by simp [zO_wI, zO_wO]
  have g3 : zI (wI (wI (wO (wO z (b 1) 11 (some wa')) (b 1) 12 (some (b 3))) (b 1) 4 0) (b 1) 5 (-1)) (b 1) 3 = S.1.1 := by simp [zI_wI, zI_wO]; exact ht.1.1
  have g4 : zI (wI (wI (wO (wO z (b 1) 11 (some wa')) (b 1) 12 (some (b 3))) (b 1) 4 0) (b 1) 5 (-1)) (b 1) 4 = 0 := by simp [zI_wI, zI_wO]
  have g5 : zI (wI (wI (wO (wO z (b 1) 11 (some wa')) (b 1) 12 (some (b 3))) (b 1) 4 0) (b 1) 5 (-1)) (b 1) 5 = -1 := by simp [zI_wI, zI_wO]
  generalize wI (wI (wO (wO z (b 1) 11 (some wa')) (b 1) 12 (some (b 3))) (b 1) 4 0) (b 1) 5 (-1) = z1 at f1 g11 g12 g3 g4 g5
  have cC : ∀ y, FrZ (WB b wRd) z y → CWz y b := fun y f => CWz_fr cw (WB_L f) (by decide)
  have bts : ∀ y, FrZ (WB b wRd) z y → ∀ i, 0 ≤ i → i < 400 → zI y (b 11) i = w8 (S.1.2.1 i) := fun y f i a d => by
    rw [(bB cw f (R := [(11, none)]) (by decide) (k := 11) (by decide) (i := i) (wHas_a (by decide))).1]; exact (ht.2.1 i a d).1
  have w32' : ∀ i, 0 ≤ i → i < 400 → (w8 (S.1.2.1 i) = 32 ↔ S.1.2.1 i = 32) := fun i a d => by
    obtain ⟨-, q0, q1⟩ := ht.2.1 i a d
    have e := w8_hi (S.1.2.1 i).toNat (by omega)
    rw [Int.toNat_of_nonneg q0] at e
    rw [e]
    split <;> omega
  have w61' : ∀ i, 0 ≤ i → i < 400 → (w8 (S.1.2.1 i) = 61 ↔ S.1.2.1 i = 61) := fun i a d => by
    obtain ⟨-, q0, q1⟩ := ht.2.1 i a d
    have e := w8_hi (S.1.2.1 i).toNat (by omega)
    rw [Int.toNat_of_nonneg q0] at e
    rw [e]
    split <;> omega
  have c1 := cC z1 f1
  unfold F_X5_read_22
  refine lp_I (fun x => (0 ≤ x ∧ x ≤ S.1.1) ∧ skp (S.1.2.1, S.1.1, S.1.1) x = tA S) (fun x => (S.1.1 - x).toNat) ?_ 0 ⟨⟨Int.le_refl 0, bT.1⟩, rfl⟩
  rintro G x ⟨⟨x0, x1⟩, ex⟩ ih
  unfold L_X5_read_22
  refine ⟨cK c1 1 rfl rfl, ?_⟩
  rw [g3]
  have bj : ¬ S.1.1 ≤ x → bt (S.1.2.1, S.1.1, S.1.1) x = S.1.2.1 x := fun q => bt_is x0 (by show x < S.1.1; omega)
  have next : x = tA S → F_X5_read_47 (b 1) x z1 c s P := by
    intro ea
    rw [ea]
    unfold F_X5_read_47
    refine ⟨cK c1 1 rfl rfl, ?_⟩
    rw [g3]
    rintro _ rfl
    have f2 : FrZ (WB b wRd) z (wI z1 (b 1) 8 S.1.1) := FrZ_wI f1 (Or.inl (WB_i (by decide) (by decide)))
    unfold F_X5_read_55
    refine lp_I (fun y => FrZ (WB b [(1, some 8)]) z1 y ∧ ∃ (k : Int) (n : Nat), zI y (b 1) 8 = k ∧ (tA S ≤ k ∧ k ≤ S.1.1) ∧ (k - tA S).toNat ≤ n ∧ trm S.1.2.1 (tA S) n k = tE S) (fun y => (zI y (b 1) 8).toNat) ?_ (wI z1 (b 1) 8 S.1.1) ⟨FrZ_wI FrZ_rf (Or.inl (WB_i (by decide) (by decide))), S.1.1, S.1.1.toNat, by rw [zI_wI, if_pos ⟨rfl, rfl⟩], ⟨ab.2.1, Int.le_refl _⟩, by omega, rfl⟩
    rintro G2 y ⟨fy, k, n, y8, ⟨k0, k1⟩, kn, ek⟩ ih2
    have fzy : FrZ (WB b wRd) z y := FrZ_tr f1 (WB_s (by decide) fy)
    have cy := cC y fzy
    unfold L_X5_read_55
    refine ⟨cK cy 1 rfl rfl, ?_⟩
    rw [y8]
    have fin : k = tE S → F_X5_read_92 (b 1) (tA S) y c s P := by
      intro eE
      clear ih2 ih
      have keep : ∀ i, wHas [(1, some 3), (1, some 4), (1, some 5), (1, some 11), (1, some 12)] 1 i → zI y (b 1) i = zI z1 (b 1) i ∧ zO y (b 1) i = zO z1 (b 1) i := fun i hi => ⟨(bB c1 fy (R := [(1, some 3), (1, some 4), (1, some 5), (1, some 11), (1, some 12)]) (by decide) (k := 1) (by decide) hi).1, (bB c1 fy (R := [(1, some 3), (1, some 4), (1, some 5), (1, some 11), (1, some 12)]) (by decide) (k := 1) (by decide) hi).2.2⟩
      have y3 := (keep 3 (wHas_i (by decide))).1.trans g3
      have y4 := (keep 4 (wHas_i (by decide))).1.trans g4
      have y5 := (keep 5 (wHas_i (by decide))).1.trans g5
      have y11 := (keep 11 (wHas_i (by decide))).2.trans g11
      have y12 := (keep 12 (wHas_i (by decide))).2.trans g12
      have Cy : TxC (tT S) y b := ⟨cy, ⟨y3, by rw [y8, eE]; rfl⟩, ⟨by show 0 ≤ tE S; omega, eb.2.1, bT.2⟩, fun i i0 i1 => ⟨bts y fzy i i0 (by have : i < tE S := i1; omega), (ht.2.1 i i0 (by have : i < tE S := i1; omega)).2⟩⟩
      have fry : Frz y b I := Frz_fr fr fzy
      have shy : ∀ r' s', ShO z I r' s' → ShO y I r' s' := fun r' s' hh => ShO_fr (WB_L fzy) (WL_I fr) (WL_7 cw) hh
      have Ey : EnC (tT S) S b I y := by
        refine ⟨Cy, y12, ?_, ⟨(bB cw fzy (R := [(3, some 4)]) (by decide) (k := 3) (by decide) (wHas_i (by decide))).1.trans hl.1.1, hl.1.2⟩, fry, fun i i0 i1 => ?_⟩
        · rw [y11]
          have := shy _ _ hkk.1
          rw [hwa] at this; exact this
        · rw [(bB cw fzy (R := [(18, none)]) (by decide) (k := 18) (by decide) (i := i) (wHas_a (by decide))).2.2]
          exact shy _ _ (hl.2 i i0 i1).1.1
      have rdS : ∀ t ∈ wPs, t ∈ wRd := by decide
      -- the tape is emptied
      have e139 : ∀ (v : Z) (q : Option Nat) (c2 s2 : Nat), (∀ w', w' = wI v (b 1) 3 0 → P q w') → CWz v b → F_X5_read_139 (b 1) q v c2 s2 P := by
        intro v q c2 s2 hp cv
        unfold F_X5_read_139
        exact ⟨cK cv 1 rfl rfl, fun w' e => hp w' e⟩
      have fault : ∀ (v : Z) (e : Int × Int) (J : Nat → Prop) (c2 s2 : Nat), pRd S = .inl e → 0 < e.1 → FrZ (WB b wRd) z v → GrI z I J → Frz v b J → zI v (b 1) 4 = e.1 → zI v (b 1) 5 = e.2 → F_X5_read_139 (b 1) none v c2 s2 P := by
        intro v e J c2 s2 he e0 fv iJ fJ v4 v5
        refine e139 v none c2 s2 (fun w' ew => ?_) (cC v fv)
        rw [ew]
        have fw : FrZ (WB b wRd) z (wI v (b 1) 3 0) := FrZ_wI fv (Or.inl (WB_i (by decide) (by decide)))
        have fv3 : FrZ (WB b [(1, some 3)]) v (wI v (b 1) 3 0) := FrZ_wI FrZ_rf (Or.inl (WB_i (by decide) (by decide)))
        refine hf e _ he e0 fw ⟨J, iJ, RC_rd R fw iJ.1 (Frz_fr fJ fv3) (by rw [zI_wI, if_pos ⟨rfl, rfl⟩]) (by rw [zI_wI, if_neg (by omega)]; exact v4) (by rw [zI_wI, if_neg (by omega)]; exact v5)⟩
      have good : ∀ (v : Z) (k' : Cont) (q : Option Nat) (J : Nat → Prop) (c2 s2 : Nat), pRd S = .inr k' → FrZ (WB b wRd) z v → GrI z I J → Frz v b J → zI v (b 1) 4 = 0 → zI v (b 1) 5 = -1 → ContC v J q k' → F_X5_read_139 (b 1) q v c2 s2 P := by
        intro v k' q J c2 s2 he fv iJ fJ v4 v5 cq
        refine e139 v q c2 s2 (fun w' ew => ?_) (cC v fv)
        rw [ew]
        have fw : FrZ (WB b wRd) z (wI v (b 1) 3 0) := FrZ_wI fv (Or.inl (WB_i (by decide) (by decide)))
        have fv3 : FrZ (WB b [(1, some 3)]) v (wI v (b 1) 3 0) := FrZ_wI FrZ_rf (Or.inl (WB_i (by decide) (by decide)))
        refine hk k' q _ J he fw iJ (RC_rd R fw iJ.1 (Frz_fr fJ fv3) (by rw [zI_wI, if_pos ⟨rfl, rfl⟩]) (by rw [zI_wI, if_neg (by omega)]; exact v4) (by rw [zI_wI, if_neg (by omega)]; exact v5)) (ContC_fr fv3 (fun a i ja h => ?_) cq)
        obtain ⟨t, t1, t2, t3, t4⟩ := h
        exact (fJ a ja).2.2.2 t.1 t2 t3
      have plain : ¬ (tA S < tE S ∧ S.1.2.1 (tA S) = 61) → F_X5_read_124 (b 1) (tA S) none y c s P := by
        intro np
        have ep : pRd S = pPlain (tT S) (tA S) := by unfold pRd; rw [if_neg np]
        unfold F_X5_read_124
        refine ⟨cK cy 1 rfl rfl, ?_⟩
        rw [y8, eE]
        by_cases ce : tE S ≤ tA S
        · rw [if_pos ce]
          have e2 : pPlain (tT S) (tA S) = .inr none := by
            unfold pPlain
            rw [if_neg ?_, if_pos (by show tE S ≤ tA S; exact ce)]
            have := rn_b (p := plB) (t := tT S) plB_n ab.1
            show ¬ rn plB (tT S) (tA S) < tE S
            omega
          exact good y none none I c s (ep.trans e2) fzy GrI_rf fry y4 y5 rfl
        · rw [if_neg ce]
          refine ⟨c, s, Nat.le_refl _, Nat.le_refl _, ?_⟩
          refine o_plainE (t := tT S) Cy fry y4 ab.1 (by show tA S < tE S; omega) (fun i i0 i1 ni => ?_) (by omega) (by omega) (fun e v he fv v4 v5 e0 => ?_) (fun k' q v J he fv iJ fJ cq => ?_)
          · rw [bts y fzy i i0 (by have : i < S.1.1 := i1; omega)]
            refine (w32' i i0 (by have : i < S.1.1 := i1; omega)).mpr ?_
            by_cases ci : i < tA S
            · exact ab.2.2.1 i i0 ci
            · refine eb.2.2 i ?_ i1
              apply Classical.byContradiction
              intro q
              exact ni ⟨by omega, by show i < tE S; omega⟩
          · exact fault v e I _ _ (ep.trans he) e0 (FrZ_tr fzy (WB_s (by decide) fv)) GrI_rf (Frz_fr fry fv) v4 v5
          · have kb1 : zK y (b 1) ≠ 0 := by rw [(cy.1 1 (by decide)).1]; exact (ckz_k 1 (by decide)).2.2
            exact good v k' (some q) J _ _ (ep.trans he) (FrZ_tr fzy (FrZ_mono fv (fun _ _ _ h => h.elim))) (GrI_pre fzy iJ) fJ ((fv.2 (b 1) 4 kb1 (fun q => q)).1.trans y4) ((fv.2 (b 1) 5 kb1 (fun q => q)).1.trans y5) cq
      unfold F_X5_read_92
      refine ⟨cK cy 1 rfl rfl, ?_⟩
      rw [y8, eE]
      by_cases ce : tE S ≤ tA S
      · rw [if_pos ce]
        exact plain (fun q => by omega)
      · rw [if_neg ce]
        refine ⟨b 11, cO cy 1 0 11 (by decide), cK cy 11 rfl rfl, ab.1, by rw [cN cy 11 (c := 400) rfl rfl]; omega, ?_⟩
        rw [bts y fzy (tA S) ab.1 (by omega)]
        by_cases c61 : S.1.2.1 (tA S) = 61
        · rw [if_pos ((w61' (tA S) ab.1 (by omega)).mpr c61)]
          refine ⟨c, s, Nat.le_refl _, Nat.le_refl _, ?_⟩
          refine o_form (t := tT S) Ey hI y4 y5 ab.1 (by show tA S < tE S; omega) (by show 3 * tE S + 5 ≤ (c : Int); omega) (by show 14 * tE S + 77 ≤ (s : Int); omega) (fun e v he F => ?_) (fun ps q v J he cq pf v4 v5 => ?_)
          · obtain ⟨J, ⟨p1, p2, p3⟩, ⟨p4, p5, p6⟩, -⟩ := F
            exact fault v e J _ _ (pRd_l (by omega) c61 he) p6 (FrZ_tr fzy (WB_s rdS p1)) (GrI_pre fzy p2) p3 p4 p5
          · exact good v _ (some q) J _ _ (pRd_r (by omega) c61 he) (FrZ_tr fzy (WB_s rdS pf.1)) (GrI_pre fzy pf.2.1) pf.2.2 v4 v5 cq
        · rw [if_neg (fun q => c61 ((w61' (tA S) ab.1 (by omega)).mp q))]
          exact plain (fun q => c61 q.2)
    by_cases ce : k ≤ tA S
    · rw [if_pos ce]
      refine fin ?_
      rw [← ek]
      cases n with
      | zero => rw [trm]
      | succ n' => rw [trm, if_neg (fun q => by omega)]
    · rw [if_neg ce, w32e (x := k - 1) (by omega) (by omega)]
      refine ⟨b 11, cO cy 1 0 11 (by decide), cK cy 11 rfl rfl, by omega, by rw [cN cy 11 (c := 400) rfl rfl]; omega, ?_⟩
      rw [bts y fzy (k - 1) (by omega) (by omega)]
      by_cases cb : S.1.2.1 (k - 1) = 32
      · rw [if_pos ((w32' (k - 1) (by omega) (by omega)).mpr cb)]
        rintro _ rfl
        obtain ⟨n', rfl⟩ : ∃ n', n = n' + 1 := ⟨n - 1, by omega⟩
        rw [trm, if_pos ⟨by omega, cb⟩] at ek
        exact ih2 _ ⟨FrZ_wI fy (Or.inl (WB_i (by decide) (by decide))), k - 1, n', by rw [zI_wI, if_pos ⟨rfl, rfl⟩], ⟨by omega, by omega⟩, by omega, ek⟩ (by rw [zI_wI, if_pos ⟨rfl, rfl⟩, y8]; omega)
      · rw [if_neg (fun q => cb ((w32' (k - 1) (by omega) (by omega)).mp q))]
        refine fin ?_
        rw [← ek]
        cases n with
        | zero => rw [trm]
        | succ n' => rw [trm, if_neg (fun q => cb q.2)]
  by_cases ce : S.1.1 ≤ x
  · rw [if_pos ce]
    refine next ?_
    rw [← ex]
    exact (skp_0 (by rw [bt_out (by show ¬ (0 ≤ x ∧ x < S.1.1); omega)]; decide)).symm
  · rw [if_neg ce]
    refine ⟨b 11, cO c1 1 0 11 (by decide), cK c1 11 rfl rfl, x0, by rw [cN c1 11 (c := 400) rfl rfl]; omega, ?_⟩
    rw [bts z1 f1 x x0 (by omega)]
    by_cases cb : S.1.2.1 x = 32
    · rw [if_pos ((w32' x x0 (by omega)).mpr cb), w32e (by omega) (by omega)]
      refine ih (x + 1) ⟨⟨by omega, by omega⟩, ?_⟩ (by omega)
      rw [← ex]
      exact (rn_1 (t := (S.1.2.1, S.1.1, S.1.1)) blB_n x0 (blB_i.mpr (by rw [bj ce]; exact cb))).symm
    · rw [if_neg (fun q => cb ((w32' x x0 (by omega)).mp q))]
      refine next ?_
      rw [← ex]
      exact (skp_0 (by rw [bj ce]; exact cb)).symm
