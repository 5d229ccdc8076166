/-! ===== undo, redo ===== -/
theorem neS {z : Z} {b : Nat → Nat} {a k : Nat} (c : CWz z b) (h : zK z a = 7) (hk : k < 35) : a ≠ b k := fun e => (ckz_k k hk).1 (by rw [← (c.1 k hk).1, ← e]; exact h)
theorem ShC_7 {z : Z} {I : Nat → Prop} {a : Nat} {s : Sh} (h : ShC z I a s) : zK z a = 7 := by
  obtain ⟨ra, ca, xa, S, -⟩ := h; exact S.1
def wSt : WR := [(6, some 2), (6, some 3), (32, none), (33, none), (0, some 11)]
/-- the working Sheet -/
def wkT (z : Z) (b : Nat → Nat) (a : Nat) : Prop := zO z (b 0) 11 = some a
/-- a Sheet that is worked at or kept as a step -/
def LvA (z : Z) (b : Nat → Nat) (a : Nat) : Prop := zO z (b 0) 11 = some a ∨ (∃ k, 0 ≤ k ∧ k < zI z (b 6) 2 ∧ zO z (b 32) k = some a) ∨ ∃ k, 0 ≤ k ∧ k < zI z (b 6) 3 ∧ zO z (b 33) k = some a
/-- another Sheet is worked at: where the Sheets are from; the old one has no values -/
def WkS (z y : Z) (b : Nat → Nat) (Q : Nat → Prop) : Prop := (∀ a, LvA y b a → Q a ∨ LvA z b a) ∧ ∀ a, zO z (b 0) 11 = some a → zO y a 3 = none
/-- another Sheet is worked at, a new one -/
def WkN (z y : Z) (b : Nat → Nat) : Prop := ∃ q, (zO y (b 0) 11 = some q ∧ zK z q = 0) ∧ zO y q 3 = none ∧ WkS z y b (fun a => a = q)
theorem new_of {W : Nat → Int → Prop} {z y : Z} {q : Nat} (f : FrZ W z y) (h : zK y q = 0) : zK z q = 0 := by
  by_cases e : zK z q = 0
  · exact e
  · exact absurd (f.1 q e).1 (by rw [h]; exact fun w => e w.symm)
theorem LvA_fr {z y : Z} {b : Nat → Nat} {L : WR} {T C : Nat → Prop} (c : CWz z b) (f : FrZ (WL z b L T C) z y) (hd : wDis L wSt = true) {a : Nat} (h : LvA y b a) : LvA z b a := by
  have e0 : zO y (b 0) 11 = zO z (b 0) 11 := (bI c f (R := wSt) hd (k := 0) (by decide) (i := 11) (wHas_i (by decide))).2.2
  have e2 : zI y (b 6) 2 = zI z (b 6) 2 := (bI c f (R := wSt) hd (k := 6) (by decide) (i := 2) (wHas_i (by decide))).1
  have e3 : zI y (b 6) 3 = zI z (b 6) 3 := (bI c f (R := wSt) hd (k := 6) (by decide) (i := 3) (wHas_i (by decide))).1
  have e32 : ∀ k, zO y (b 32) k = zO z (b 32) k := fun k => (bI c f (R := wSt) hd (k := 32) (by decide) (i := k) (wHas_a (by decide))).2.2
  have e33 : ∀ k, zO y (b 33) k = zO z (b 33) k := fun k => (bI c f (R := wSt) hd (k := 33) (by decide) (i := k) (wHas_a (by decide))).2.2
  unfold LvA at h ⊢
  rw [e0, e2, e3] at h
  rcases h with h | ⟨k, k0, k1, h⟩ | ⟨k, k0, k1, h⟩
  · exact Or.inl h
  · exact Or.inr (Or.inl ⟨k, k0, k1, by rw [← e32 k]; exact h⟩)
  · exact Or.inr (Or.inr ⟨k, k0, k1, by rw [← e33 k]; exact h⟩)
theorem WkN_of {z y w : Z} {b : Nat → Nat} {L L' : WR} {T C C' : Nat → Prop} {q : Nat} (c : CWz z b) (f : FrZ (WL z b L T C) z y) (hd : wDis L wSt = true) (hz : zK z q = 0) (h3 : zO y q 3 = none) (cy : CWz y b) (kq : zK y q = 7) (fw : FrZ (WL y b L' (wkT y b) C') y w) (ew : zO w (b 0) 11 = some q) (s : WkS y w b (fun a => a = q)) : WkN z w b := by
  have e0 : zO y (b 0) 11 = zO z (b 0) 11 := (bI c f (R := wSt) hd (k := 0) (by decide) (i := 11) (wHas_i (by decide))).2.2
  refine ⟨q, ⟨ew, hz⟩, ?_, fun a ha => ?_, fun a ha => s.2 a (by rw [e0]; exact ha)⟩
  · by_cases e : zO y (b 0) 11 = some q
    · exact s.2 q e
    · refine (fw.2 q 3 (by rw [kq]; decide) ?_).2.2.trans h3
      rintro (⟨t, t1, t2, t3, t4⟩ | ⟨t1, -, -⟩ | ⟨-, t2, -⟩)
      · exact neS cy kq t2 t3
      · exact e t1
      · rw [kq] at t2; cases t2
  · rcases s.1 a ha with e | e
    · exact Or.inl e
    · exact Or.inr (LvA_fr c f hd e)
/-- new cells first -/
theorem WkN_nw {z y w : Z} {b : Nat → Nat} {L' : WR} {C' : Nat → Prop} {q : Nat} (c : CWz z b) (f : FrZ nW z y) (hz : zK z q = 0) (h3 : zO y q 3 = none) (cy : CWz y b) (kq : zK y q = 7) (fw : FrZ (WL y b L' (wkT y b) C') y w) (ew : zO w (b 0) 11 = some q ∧ WkS y w b (fun a => a = q)) : WkN z w b := WkN_of (L := []) (T := no1) (C := no1) c (FrZ_mono f (fun _ _ _ w => w.elim)) rfl hz h3 cy kq fw ew.1 ew.2
theorem WkN_pre {z y w : Z} {b : Nat → Nat} {L : WR} {T C : Nat → Prop} (c : CWz z b) (f : FrZ (WL z b L T C) z y) (hd : wDis L wSt = true) (h : WkN y w b) : WkN z w b := by
  have e0 : zO y (b 0) 11 = zO z (b 0) 11 := (bI c f (R := wSt) hd (k := 0) (by decide) (i := 11) (wHas_i (by decide))).2.2
  obtain ⟨q, ⟨h1, h2⟩, h3, h4, h5⟩ := h
  refine ⟨q, ⟨h1, new_of f h2⟩, h3, fun a ha => ?_, fun a ha => h5 a (by rw [e0]; exact ha)⟩
  rcases h4 a ha with e | e
  · exact Or.inl e
  · exact Or.inr (LvA_fr c f hd e)
theorem WL_37 {z : Z} {b : Nat → Nat} {L : WR} {C : Nat → Prop} {a : Nat} (c : CWz z b) (k : zK z a = 7) (i : Int) : ¬ WL z b L no1 C a i := by
  rintro (⟨t, t1, t2, t3, t4⟩ | ⟨t1, -, -⟩ | ⟨-, t2, -⟩)
  · exact neS c k t2 t3
  · exact t1
  · rw [k] at t2; cases t2
theorem WkN_tr {z w v : Z} {b : Nat → Nat} {L : WR} {C : Nat → Prop} (c : CWz w b) (h : WkN z w b) (f : FrZ (WL w b L no1 C) w v) (hd : wDis L wSt = true) (k7 : ∀ a, zO w (b 0) 11 = some a → zK w a = 7) (k7z : ∀ a, zO z (b 0) 11 = some a → zK w a = 7) : WkN z v b := by
  have e0 : zO v (b 0) 11 = zO w (b 0) 11 := (bI c f (R := wSt) hd (k := 0) (by decide) (i := 11) (wHas_i (by decide))).2.2
  obtain ⟨q, ⟨h1, h2⟩, h3, h4, h5⟩ := h
  have e3 : ∀ a, zK w a = 7 → zO v a 3 = zO w a 3 := fun a ka => (f.2 a 3 (by rw [ka]; decide) (WL_37 c ka 3)).2.2
  exact ⟨q, ⟨by rw [e0]; exact h1, h2⟩, by rw [e3 q (k7 q h1)]; exact h3, fun a ha => h4 a (LvA_fr c f hd ha), fun a ha => by rw [e3 a (k7z a ha)]; exact h5 a ha⟩
def pUndo (S : SS) : Nat × Int × SS := if S.2.2.2.1.2.1 = 0 then (1, 0, S) else (0, S.2.2.2.1.2.1 - 1, S.1, S.2.1, S.2.2.1, (S.2.2.2.1.2.2.1 (S.2.2.2.1.2.1 - 1), S.2.2.2.1.2.1 - 1, S.2.2.2.1.2.2.1, S.2.2.2.1.2.2.2.1 + 1, fun k => if k = S.2.2.2.1.2.2.2.1 then S.2.2.2.1.1 else S.2.2.2.1.2.2.2.2 k), S.2.2.2.2)
def pRedo (S : SS) : Nat × Int × SS := if S.2.2.2.1.2.2.2.1 = 0 then (1, 0, S) else (0, S.2.2.2.1.2.2.2.1 - 1, S.1, S.2.1, S.2.2.1, (S.2.2.2.1.2.2.2.2 (S.2.2.2.1.2.2.2.1 - 1), S.2.2.2.1.2.1 + 1, (fun k => if k = S.2.2.2.1.2.1 then S.2.2.2.1.1 else S.2.2.2.1.2.2.1 k), S.2.2.2.1.2.2.2.1 - 1, S.2.2.2.1.2.2.2.2), S.2.2.2.2)
theorem o_undo {z : Z} {b : Nat → Nat} {I : Nat → Prop} {S : SS} {c s : Nat} {P : Int → Z → Prop} {X : Nat → Z → Prop} (R : RC z b I S) (hc : 1 ≤ c) (hs : 6 ≤ s) (hx : (pUndo S).1 = 1 → X 4 z) (h : (pUndo S).1 = 0 → ∀ y, FrZ (WL z b wSt (wkT z b) no1) z y → RC y b I (pUndo S).2.2 → WkS z y b no1 → P (pUndo S).2.1 y) : F_X11_undo (b 0) z c s P X := by
  obtain ⟨cw, r, ht, hl, hb, hk, hq⟩ := id R
  obtain ⟨⟨wa, hw, sw⟩, ⟨d1, d2, d3, d4, d5⟩, hd, hu⟩ := hk
  have k7 := ShC_7 sw
  unfold pUndo at hx h
  unfold F_X11_undo
  refine ⟨cK cw 0 rfl rfl, b 6, cO cw 0 5 6 (by decide), cK cw 6 rfl rfl, ?_⟩
  rw [d1]
  by_cases e : S.2.2.2.1.2.1 = 0
  · rw [if_pos e]; rw [if_pos e] at hx; exact ⟨hc, hs, hx rfl⟩
  · rw [if_neg e]; rw [if_neg e] at h
    unfold F_X7_back F_X7_back_17
    refine ⟨cK cw 6 rfl rfl, ?_⟩
    rw [d1, if_neg (by omega), d2, if_pos (by omega)]
    rintro _ rfl
    refine ⟨b 33, cO cw 6 1 33 (by decide), cK cw 33 rfl rfl, ?_⟩
    rw [zI_wI, if_neg (by omega), d2]
    refine ⟨by omega, (show S.2.2.2.1.2.2.2.1 < zN z (b 33) by rw [cN cw 33 (c := 40) rfl rfl]; omega), fun v hv => (by rw [hw] at hv; cases hv; exact k7), ?_⟩
    rintro _ rfl _ rfl
    rw [zI_wO, zI_wI, if_neg (by omega), d2, w32e (x := S.2.2.2.1.2.1 - 1) (by omega) (by omega), w32e (x := S.2.2.2.1.2.2.2.1 + 1) (by omega) (by omega)]
    have nTF : b 32 ≠ b 33 := cNe cw rfl rfl rfl
    have nT0 : b 0 ≠ b 33 := cNe cw rfl rfl rfl
    have nF0 : b 32 ≠ b 0 := cNe cw rfl rfl rfl
    have n60 : b 6 ≠ b 0 := cNe cw rfl rfl rfl
    have nwF := neS cw k7 (k := 32) (by decide)
    have nwT := neS cw k7 (k := 33) (by decide)
    refine ⟨b 32, (by rw [zO_wI, zO_wO, if_neg (fun w => absurd w.1 (cNe cw rfl rfl rfl)), zO_wI]; exact cO cw 6 0 32 (by decide)), cK cw 32 rfl rfl, ?_⟩
    rw [zI_wI, if_neg (by omega), zI_wO, zI_wI, if_pos ⟨rfl, rfl⟩]
    refine ⟨by omega, (show S.2.2.2.1.2.1 - 1 < zN z (b 32) by rw [cN cw 32 (c := 40) rfl rfl]; omega), cK cw 0 rfl rfl, ?_⟩
    unfold F_X11_show
    refine ⟨cK cw 0 rfl rfl, wa, (by rw [zO_wI, zO_wO, if_neg (fun w => nT0 w.1), zO_wI]; exact hw), k7, ?_⟩
    rintro _ rfl _ rfl
    refine ⟨cK cw 0 rfl rfl, b 6, (by rw [zO_wO, if_neg (by omega), zO_wO, if_neg (fun w => neS cw k7 (k := 0) (by decide) w.1.symm), zO_wI, zO_wO, if_neg (fun w => nT0 w.1), zO_wI]; exact cO cw 0 5 6 (by decide)), cK cw 6 rfl rfl, ?_⟩
    rw [zO_wI, zO_wO, if_neg (fun w => nTF w.1), zO_wI, zI_wO, zI_wO, zI_wI, if_neg (by omega), zI_wO, zI_wI, if_pos ⟨rfl, rfl⟩]
    have f : FrZ (WL z b wSt (wkT z b) no1) z (wO (wO (wI (wO (wI z (b 6) 2 (S.2.2.2.1.2.1 - 1)) (b 33) S.2.2.2.1.2.2.2.1 (zO z (b 0) 11)) (b 6) 3 (S.2.2.2.1.2.2.2.1 + 1)) wa 3 none) (b 0) 11 (zO z (b 32) (S.2.2.2.1.2.1 - 1))) := FrZ_wO (FrZ_wO (FrZ_wI (FrZ_wO (FrZ_wI FrZ_rf (Or.inl (WL_i (by decide) (by decide)))) (Or.inl (WL_a (by decide) (by decide)))) (Or.inl (WL_i (by decide) (by decide)))) (Or.inl (Or.inr (Or.inl ⟨hw, k7, rfl⟩)))) (Or.inl (WL_i (by decide) (by decide)))
    have sf : ∀ r s, ShO z I r s → ShO _ I r s := fun _ _ q => ShO_fr f (WL_I r) (WL_7 cw) q
    have eF : ∀ k, zO (wO (wO (wI (wO (wI z (b 6) 2 (S.2.2.2.1.2.1 - 1)) (b 33) S.2.2.2.1.2.2.2.1 (zO z (b 0) 11)) (b 6) 3 (S.2.2.2.1.2.2.2.1 + 1)) wa 3 none) (b 0) 11 (zO z (b 32) (S.2.2.2.1.2.1 - 1))) (b 32) k = zO z (b 32) k := fun k => by
      rw [zO_wO, if_neg (fun w => nF0 w.1), zO_wO, if_neg (fun w => nwF w.1.symm), zO_wI, zO_wO, if_neg (fun w => nTF w.1), zO_wI]
    have eT : ∀ k, zO (wO (wO (wI (wO (wI z (b 6) 2 (S.2.2.2.1.2.1 - 1)) (b 33) S.2.2.2.1.2.2.2.1 (zO z (b 0) 11)) (b 6) 3 (S.2.2.2.1.2.2.2.1 + 1)) wa 3 none) (b 0) 11 (zO z (b 32) (S.2.2.2.1.2.1 - 1))) (b 33) k = if k = S.2.2.2.1.2.2.2.1 then zO z (b 0) 11 else zO z (b 33) k := fun k => by
      rw [zO_wO, if_neg (fun w => nT0 w.1.symm), zO_wO, if_neg (fun w => nwT w.1.symm), zO_wI, zO_wO, zO_wI]
      by_cases ck : k = S.2.2.2.1.2.2.2.1
      · rw [if_pos ⟨rfl, ck⟩, if_pos ck]
      · rw [if_neg (fun w => ck w.2), if_neg ck]
    have iF : zI (wO (wO (wI (wO (wI z (b 6) 2 (S.2.2.2.1.2.1 - 1)) (b 33) S.2.2.2.1.2.2.2.1 (zO z (b 0) 11)) (b 6) 3 (S.2.2.2.1.2.2.2.1 + 1)) wa 3 none) (b 0) 11 (zO z (b 32) (S.2.2.2.1.2.1 - 1))) (b 6) 2 = S.2.2.2.1.2.1 - 1 := by
      rw [zI_wO, zI_wO, zI_wI, if_neg (by omega), zI_wO, zI_wI, if_pos ⟨rfl, rfl⟩]
    have iT : zI (wO (wO (wI (wO (wI z (b 6) 2 (S.2.2.2.1.2.1 - 1)) (b 33) S.2.2.2.1.2.2.2.1 (zO z (b 0) 11)) (b 6) 3 (S.2.2.2.1.2.2.2.1 + 1)) wa 3 none) (b 0) 11 (zO z (b 32) (S.2.2.2.1.2.1 - 1))) (b 6) 3 = S.2.2.2.1.2.2.2.1 + 1 := by
      rw [zI_wO, zI_wO, zI_wI, if_pos ⟨rfl, rfl⟩]
    refine h rfl _ f ⟨CWz_fr cw f (by decide), Frz_fr r f, RCt_fr cw f (by decide) ht, RCl_fr cw r f (by decide) hl, RCb_fr cw f (by decide) hb, ?_, RCq_fr cw r f (by decide) hq⟩ ⟨fun a ha => ?_, fun a ha => ?_⟩
    · exact ⟨(by rw [zO_wO, if_pos ⟨rfl, rfl⟩]; exact sf _ _ (hd _ (by omega) (by omega))), ⟨iF, iT, (by show 0 ≤ S.2.2.2.1.2.1 - 1; omega), (by show 0 ≤ S.2.2.2.1.2.2.2.1 + 1; omega), (by show S.2.2.2.1.2.1 - 1 + (S.2.2.2.1.2.2.2.1 + 1) ≤ 40; omega)⟩, fun k k0 k1 => (by rw [eF k]; exact sf _ _ (hd k k0 (by (try simp only at k1); omega))), fun k k0 k1 => (by
        rw [eT k]
        by_cases ck : k = S.2.2.2.1.2.2.2.1
        · rw [if_pos ck]; simp only [if_pos ck]; exact sf _ _ ⟨wa, hw, sw⟩
        · rw [if_neg ck]; simp only [if_neg ck]; exact sf _ _ (hu k k0 (by (try simp only at k1); omega)))⟩
    · unfold LvA at ha
      rw [iF, iT, zO_wO, if_pos ⟨rfl, rfl⟩] at ha
      refine Or.inr ?_
      rcases ha with ha | ⟨k, k0, k1, ha⟩ | ⟨k, k0, k1, ha⟩
      · exact Or.inr (Or.inl ⟨S.2.2.2.1.2.1 - 1, by omega, by rw [d1]; omega, ha⟩)
      · rw [eF k] at ha; exact Or.inr (Or.inl ⟨k, k0, by rw [d1]; omega, ha⟩)
      · rw [eT k] at ha
        by_cases ck : k = S.2.2.2.1.2.2.2.1
        · rw [if_pos ck] at ha; exact Or.inl ha
        · rw [if_neg ck] at ha; exact Or.inr (Or.inr ⟨k, k0, by rw [d2]; omega, ha⟩)
    · rw [hw] at ha; cases ha
      rw [zO_wO, if_neg (fun w => neS cw k7 (k := 0) (by decide) w.1), zO_wO, if_pos ⟨rfl, rfl⟩]
theorem o_redo {z : Z} {b : Nat → Nat} {I : Nat → Prop} {S : SS} {c s : Nat} {P : Int → Z → Prop} {X : Nat → Z → Prop} (R : RC z b I S) (hc : 1 ≤ c) (hs : 6 ≤ s) (hx : (pRedo S).1 = 1 → X 4 z) (h : (pRedo S).1 = 0 → ∀ y, FrZ (WL z b wSt (wkT z b) no1) z y → RC y b I (pRedo S).2.2 → WkS z y b no1 → P (pRedo S).2.1 y) : F_X11_redo (b 0) z c s P X := by
  obtain ⟨cw, r, ht, hl, hb, hk, hq⟩ := id R
  obtain ⟨⟨wa, hw, sw⟩, ⟨d1, d2, d3, d4, d5⟩, hd, hu⟩ := hk
  have k7 := ShC_7 sw
  unfold pRedo at hx h
  unfold F_X11_redo
  refine ⟨cK cw 0 rfl rfl, b 6, cO cw 0 5 6 (by decide), cK cw 6 rfl rfl, ?_⟩
  rw [d2]
  by_cases e : S.2.2.2.1.2.2.2.1 = 0
  · rw [if_pos e]; rw [if_pos e] at hx; exact ⟨hc, hs, hx rfl⟩
  · rw [if_neg e]; rw [if_neg e] at h
    unfold F_X7_again F_X7_again_17
    refine ⟨cK cw 6 rfl rfl, ?_⟩
    rw [d2, if_neg (by omega), d1, if_pos (by omega)]
    rintro _ rfl
    refine ⟨b 32, cO cw 6 0 32 (by decide), cK cw 32 rfl rfl, ?_⟩
    rw [zI_wI, if_neg (by omega), d1]
    refine ⟨by omega, (show S.2.2.2.1.2.1 < zN z (b 32) by rw [cN cw 32 (c := 40) rfl rfl]; omega), fun v hv => (by rw [hw] at hv; cases hv; exact k7), ?_⟩
    rintro _ rfl _ rfl
    rw [zI_wO, zI_wI, if_neg (by omega), d1, w32e (x := S.2.2.2.1.2.2.2.1 - 1) (by omega) (by omega), w32e (x := S.2.2.2.1.2.1 + 1) (by omega) (by omega)]
    have nTF : b 33 ≠ b 32 := cNe cw rfl rfl rfl
    have nT0 : b 0 ≠ b 32 := cNe cw rfl rfl rfl
    have nF0 : b 33 ≠ b 0 := cNe cw rfl rfl rfl
    have n60 : b 6 ≠ b 0 := cNe cw rfl rfl rfl
    have nwF := neS cw k7 (k := 33) (by decide)
    have nwT := neS cw k7 (k := 32) (by decide)
    refine ⟨b 33, (by rw [zO_wI, zO_wO, if_neg (fun w => absurd w.1 (cNe cw rfl rfl rfl)), zO_wI]; exact cO cw 6 1 33 (by decide)), cK cw 33 rfl rfl, ?_⟩
    rw [zI_wI, if_neg (by omega), zI_wO, zI_wI, if_pos ⟨rfl, rfl⟩]
    refine ⟨by omega, (show S.2.2.2.1.2.2.2.1 - 1 < zN z (b 33) by rw [cN cw 33 (c := 40) rfl rfl]; omega), cK cw 0 rfl rfl, ?_⟩
    unfold F_X11_show
    refine ⟨cK cw 0 rfl rfl, wa, (by rw [zO_wI, zO_wO, if_neg (fun w => nT0 w.1), zO_wI]; exact hw), k7, ?_⟩
    rintro _ rfl _ rfl
    refine ⟨cK cw 0 rfl rfl, b 6, (by rw [zO_wO, if_neg (by omega), zO_wO, if_neg (fun w => neS cw k7 (k := 0) (by decide) w.1.symm), zO_wI, zO_wO, if_neg (fun w => nT0 w.1), zO_wI]; exact cO cw 0 5 6 (by decide)), cK cw 6 rfl rfl, ?_⟩
    rw [zO_wI, zO_wO, if_neg (fun w => nTF w.1), zO_wI, zI_wO, zI_wO, zI_wI, if_neg (by omega), zI_wO, zI_wI, if_pos ⟨rfl, rfl⟩]
    have f : FrZ (WL z b wSt (wkT z b) no1) z (wO (wO (wI (wO (wI z (b 6) 3 (S.2.2.2.1.2.2.2.1 - 1)) (b 32) S.2.2.2.1.2.1 (zO z (b 0) 11)) (b 6) 2 (S.2.2.2.1.2.1 + 1)) wa 3 none) (b 0) 11 (zO z (b 33) (S.2.2.2.1.2.2.2.1 - 1))) := FrZ_wO (FrZ_wO (FrZ_wI (FrZ_wO (FrZ_wI FrZ_rf (Or.inl (WL_i (by decide) (by decide)))) (Or.inl (WL_a (by decide) (by decide)))) (Or.inl (WL_i (by decide) (by decide)))) (Or.inl (Or.inr (Or.inl ⟨hw, k7, rfl⟩)))) (Or.inl (WL_i (by decide) (by decide)))
    have sf : ∀ r s, ShO z I r s → ShO _ I r s := fun _ _ q => ShO_fr f (WL_I r) (WL_7 cw) q
    have eF : ∀ k, zO (wO (wO (wI (wO (wI z (b 6) 3 (S.2.2.2.1.2.2.2.1 - 1)) (b 32) S.2.2.2.1.2.1 (zO z (b 0) 11)) (b 6) 2 (S.2.2.2.1.2.1 + 1)) wa 3 none) (b 0) 11 (zO z (b 33) (S.2.2.2.1.2.2.2.1 - 1))) (b 33) k = zO z (b 33) k := fun k => by
      rw [zO_wO, if_neg (fun w => nF0 w.1), zO_wO, if_neg (fun w => nwF w.1.symm), zO_wI, zO_wO, if_neg (fun w => nTF w.1), zO_wI]
    have eT : ∀ k, zO (wO (wO (wI (wO (wI z (b 6) 3 (S.2.2.2.1.2.2.2.1 - 1)) (b 32) S.2.2.2.1.2.1 (zO z (b 0) 11)) (b 6) 2 (S.2.2.2.1.2.1 + 1)) wa 3 none) (b 0) 11 (zO z (b 33) (S.2.2.2.1.2.2.2.1 - 1))) (b 32) k = if k = S.2.2.2.1.2.1 then zO z (b 0) 11 else zO z (b 32) k := fun k => by
      rw [zO_wO, if_neg (fun w => nT0 w.1.symm), zO_wO, if_neg (fun w => nwT w.1.symm), zO_wI, zO_wO, zO_wI]
      by_cases ck : k = S.2.2.2.1.2.1
      · rw [if_pos ⟨rfl, ck⟩, if_pos ck]
      · rw [if_neg (fun w => ck w.2), if_neg ck]
    have iF : zI (wO (wO (wI (wO (wI z (b 6) 3 (S.2.2.2.1.2.2.2.1 - 1)) (b 32) S.2.2.2.1.2.1 (zO z (b 0) 11)) (b 6) 2 (S.2.2.2.1.2.1 + 1)) wa 3 none) (b 0) 11 (zO z (b 33) (S.2.2.2.1.2.2.2.1 - 1))) (b 6) 3 = S.2.2.2.1.2.2.2.1 - 1 := by
      rw [zI_wO, zI_wO, zI_wI, if_neg (by omega), zI_wO, zI_wI, if_pos ⟨rfl, rfl⟩]
    have iT : zI (wO (wO (wI (wO (wI z (b 6) 3 (S.2.2.2.1.2.2.2.1 - 1)) (b 32) S.2.2.2.1.2.1 (zO z (b 0) 11)) (b 6) 2 (S.2.2.2.1.2.1 + 1)) wa 3 none) (b 0) 11 (zO z (b 33) (S.2.2.2.1.2.2.2.1 - 1))) (b 6) 2 = S.2.2.2.1.2.1 + 1 := by
      rw [zI_wO, zI_wO, zI_wI, if_pos ⟨rfl, rfl⟩]
    refine h rfl _ f ⟨CWz_fr cw f (by decide), Frz_fr r f, RCt_fr cw f (by decide) ht, RCl_fr cw r f (by decide) hl, RCb_fr cw f (by decide) hb, ?_, RCq_fr cw r f (by decide) hq⟩ ⟨fun a ha => ?_, fun a ha => ?_⟩
    · exact ⟨(by rw [zO_wO, if_pos ⟨rfl, rfl⟩]; exact sf _ _ (hu _ (by omega) (by omega))), ⟨iT, iF, (by show 0 ≤ S.2.2.2.1.2.1 + 1; omega), (by show 0 ≤ S.2.2.2.1.2.2.2.1 - 1; omega), (by show S.2.2.2.1.2.1 + 1 + (S.2.2.2.1.2.2.2.1 - 1) ≤ 40; omega)⟩, fun k k0 k1 => (by
        rw [eT k]
        by_cases ck : k = S.2.2.2.1.2.1
        · rw [if_pos ck]; simp only [if_pos ck]; exact sf _ _ ⟨wa, hw, sw⟩
        · rw [if_neg ck]; simp only [if_neg ck]; exact sf _ _ (hd k k0 (by (try simp only at k1); omega))), fun k k0 k1 => (by rw [eF k]; exact sf _ _ (hu k k0 (by (try simp only at k1); omega)))⟩
    · unfold LvA at ha
      rw [iF, iT, zO_wO, if_pos ⟨rfl, rfl⟩] at ha
      refine Or.inr ?_
      rcases ha with ha | ⟨k, k0, k1, ha⟩ | ⟨k, k0, k1, ha⟩
      · exact Or.inr (Or.inr ⟨S.2.2.2.1.2.2.2.1 - 1, by omega, by rw [d2]; omega, ha⟩)
      · rw [eT k] at ha
        by_cases ck : k = S.2.2.2.1.2.1
        · rw [if_pos ck] at ha; exact Or.inl ha
        · rw [if_neg ck] at ha; exact Or.inr (Or.inl ⟨k, k0, by rw [d1]; omega, ha⟩)
      · rw [eF k] at ha; exact Or.inr (Or.inr ⟨k, k0, by rw [d2]; omega, ha⟩)
    · rw [hw] at ha; cases ha
      rw [zO_wO, if_neg (fun w => neS cw k7 (k := 0) (by decide) w.1), zO_wO, if_pos ⟨rfl, rfl⟩]
theorem mF0 {u : Mu} {a b : Int} {k : Nat} {i : Int} (h : k = 0 ∨ 6 ≤ k) (h2 : k = 0 → i ≠ 65) : mI (cpF u a b) k i = mI u k i := by
  have q : mI (cpS u a b) k i = mI u k i := by
    unfold cpS
    rw [mI_cpM, if_neg (by omega), mI_cpM, if_neg (by omega), mI_cpM, if_neg (by omega), mI_uI, if_neg (by omega), mI_uI, if_neg (by omega)]
  unfold cpF
  split
  · rw [mI_uI, if_neg (by omega)]; exact q
  · exact q
def wUm : WR := [(0, some 0), (0, some 15), (0, some 16), (0, some 17), (0, some 65), (1, none), (2, none), (3, none), (4, none), (5, none)]
def Q65 (u v : Mu) (S S' : SS) : Prop := mI v 0 65 = 0 ∨ (mI v 0 65 = mI u 0 65 ∧ S'.2.1 = S.2.1 ∧ S'.2.2.2.1.1 = S.2.2.2.1.1)
theorem Q65_t {u : Mu} {x y : Int} {S : SS} : Q65 u (uI (uI u 0 0 x) 0 0 y) S S := Or.inr ⟨by rw [mI_uI, if_neg (by omega), mI_uI, if_neg (by omega)], rfl, rfl⟩
theorem Q65_m {L : WR} {u v w : Mu} {S S' : SS} (f : FrM L v w) (hd : wDis L [(0, some 65)] = true) (z : mI v 0 65 = 0) : Q65 u w S S' := Or.inl ((mE f (R := [(0, some 65)]) hd (k := 0) (i := 65) (wHas_i (by decide))).trans z)
theorem e65 {L : WR} {v w : Mu} (f : FrM L v w) (hd : wDis L [(0, some 65)] = true) : mI w 0 65 = mI v 0 65 := mE f (R := [(0, some 65)]) hd (k := 0) (i := 65) (wHas_i (by decide))
theorem cpF_65 {u : Mu} {a : Int} : mI (cpF u a 40) 0 65 = 0 := by unfold cpF; rw [if_pos rfl, mI_uI, if_pos ⟨rfl, rfl⟩]
theorem i_undo {u : Mu} {N : Int} {S : SS} {P : Int → Mu → Prop} (hB : Bd S) (R : RM u N S) (h : ∀ v, RM v N (pUndo S).2.2 → FrM wUm u v → (mI v 0 0 = ((pUndo S).1 : Int) ∧ Q65 u v S (pUndo S).2.2) → P (pUndo S).2.1 v) : F_X12_undo u P := by
  unfold F_X12_undo
  rintro _ rfl
  have R' := RM_thr (x := 0) hB R
  have f : FrM wUm u (uI u 0 0 0) := FrM_uI FrM_rf (wHas_i (by decide))
  have z0 : mI (uI u 0 0 0) 0 0 = 0 := by rw [mI_uI, if_pos ⟨rfl, rfl⟩]
  generalize hv : uI u 0 0 0 = v at R' f z0 ⊢
  obtain ⟨⟨n1, n2⟩, ht, hl, hb, hk, hq⟩ := id R'
  obtain ⟨hw, ⟨d1, d2, d3, d4⟩, hd, hu⟩ := hk
  obtain ⟨bw, ⟨b1, b2, b3⟩, bd, bu⟩ := hB.2.2.2.1
  unfold pUndo at h
  rw [d1]
  by_cases e : S.2.2.2.1.2.1 = 0
  · rw [if_pos e]; rw [if_pos e] at h
    exact i_throwing (h _ (RM_thr hB R') (FrM_uI f (wHas_i (by decide))) ⟨by rw [mI_uI, if_pos ⟨rfl, rfl⟩]; rfl, by rw [← hv]; exact Q65_t⟩)
  · rw [if_neg e]; rw [if_neg e] at h
    rw [d2, w32e (x := 81 + S.2.2.2.1.2.2.2.1) (by omega) (by omega)]
    refine i_copySheet (by omega) (by omega) (by omega) (by omega) ?_
    rintro _ rfl _ rfl
    have a1 : mI (cpF v 40 (81 + S.2.2.2.1.2.2.2.1)) 0 17 = S.2.2.2.1.2.2.2.1 := by rw [mF0 (Or.inl rfl) (by omega)]; exact d2
    have a2 : ∀ x, mI (uI (cpF v 40 (81 + S.2.2.2.1.2.2.2.1)) 0 17 x) 0 16 = S.2.2.2.1.2.1 := fun x => by rw [mI_uI, if_neg (by omega), mF0 (Or.inl rfl) (by omega)]; exact d1
    rw [a1, w32e (x := S.2.2.2.1.2.2.2.1 + 1) (by omega) (by omega), a2, w32e (x := S.2.2.2.1.2.1 - 1) (by omega) (by omega), mI_uI, if_pos ⟨rfl, rfl⟩]
    generalize hx1 : uI (uI (cpF v 40 (81 + S.2.2.2.1.2.2.2.1)) 0 17 (S.2.2.2.1.2.2.2.1 + 1)) 0 16 (S.2.2.2.1.2.1 - 1) = x1
    have q15 : mI x1 0 15 = mI v 0 15 := by rw [← hx1, mI_uI, if_neg (by omega), mI_uI, if_neg (by omega), mF0 (Or.inl rfl) (by omega)]
    have q16 : mI x1 0 16 = S.2.2.2.1.2.1 - 1 := by rw [← hx1, mI_uI, if_pos ⟨rfl, rfl⟩]
    have q17 : mI x1 0 17 = S.2.2.2.1.2.2.2.1 + 1 := by rw [← hx1, mI_uI, if_neg (by omega), mI_uI, if_pos ⟨rfl, rfl⟩]
    have q0 : mI x1 0 0 = 0 := by rw [← hx1, mI_uI, if_neg (by omega), mI_uI, if_neg (by omega), mF0 (Or.inl rfl) (by omega)]; exact z0
    have s1 : ∀ s, s ≠ 81 + S.2.2.2.1.2.2.2.1 → SlM v x1 s s := fun s hs => by rw [← hx1]; exact SlM_65 (SlM_65 (SlM_fo hs))
    have s2 : SlM v x1 40 (81 + S.2.2.2.1.2.2.2.1) := by rw [← hx1]; exact SlM_65 (SlM_65 SlM_f)
    have fx : ∀ w, FrM wUm w v → FrM wUm w x1 := fun w fw => by rw [← hx1]; exact FrM_uI (FrM_uI (FrM_cpF fw (by decide) (by decide)) (wHas_i (by decide))) (wHas_i (by decide))
    refine i_stepAt (by omega) (by omega) (by omega) (by omega) ?_
    rw [q15]
    refine i_copySheet (by omega) (by omega) (by omega) (by omega) ?_
    rw [mF0 (Or.inl rfl) (by omega), q16]
    generalize hx2 : cpF x1 (41 + (mI v 0 15 + (S.2.2.2.1.2.1 - 1)) % 40) 40 = x2
    have p : ∀ i, i ≠ 65 → mI x2 0 i = mI x1 0 i := fun i hi => by rw [← hx2]; exact mF0 (Or.inl rfl) (fun _ => hi)
    have t1 : ∀ s, s ≠ 40 → SlM x1 x2 s s := fun s hs => by rw [← hx2]; exact SlM_fo hs
    have t2 : SlM x1 x2 (41 + (mI v 0 15 + (S.2.2.2.1.2.1 - 1)) % 40) 40 := by rw [← hx2]; exact SlM_f
    have fv : FrM wUm v x2 := by rw [← hx2]; exact FrM_cpF (fx v FrM_rf) (by decide) (by decide)
    have g := Grw_fr n1.1 fv (by decide)
    have e19 := mE fv (R := rgC) (by decide) (k := 0) (i := 19) (wHas_i (by decide))
    have e24 := mE fv (R := rgC) (by decide) (k := 0) (i := 24) (wHas_i (by decide))
    refine h x2 ⟨by rw [e19, e24]; exact ⟨n1, n2⟩, RMt_fr fv (by decide) ht, RMl_fr fv (by decide) (fun k a c => (hB.2.1.2 k a c).1) g (fun k a c => (by have c' : k < S.2.1.1 := c; have := hB.2.1.1; exact SlM_tr (s1 k (by omega)) (t1 k (by omega)))) hl, RMb_fr fv (by decide) hb, ?_, RMq_fr fv (by decide) g hq⟩ (by rw [← hx2]; exact FrM_cpF (fx u f) (by decide) (by decide)) ⟨by rw [p 0 (by decide)]; exact q0, Or.inl (by rw [← hx2]; exact cpF_65)⟩
    refine ⟨ShM_s (bd _ (by omega) (by omega)) g (SlM_tr (s1 _ (by omega)) t2) (hd _ (by omega) (by omega)), ⟨(p 16 (by decide)).trans q16, (p 17 (by decide)).trans q17, by rw [p 15 (by decide), q15]; exact ⟨d3, d4⟩⟩, fun k k0 k1 => ?_, fun k k0 k1 => ?_⟩
    · simp only at k1
      rw [p 15 (by decide), q15]
      exact ShM_s (bd k k0 (by omega)) g (SlM_tr (s1 _ (by omega)) (t1 _ (by omega))) (hd k k0 (by omega))
    · simp only at k1
      by_cases ck : k = S.2.2.2.1.2.2.2.1
      · simp only [if_pos ck]
        rw [ck]
        exact ShM_s bw g (SlM_tr s2 (t1 _ (by omega))) hw
      · simp only [if_neg ck]
        exact ShM_s (bu k k0 (by omega)) g (SlM_tr (s1 _ (by omega)) (t1 _ (by omega))) (hu k k0 (by omega))
theorem i_redo {u : Mu} {N : Int} {S : SS} {P : Int → Mu → Prop} (hB : Bd S) (R : RM u N S) (h : ∀ v, RM v N (pRedo S).2.2 → FrM wUm u v → (mI v 0 0 = ((pRedo S).1 : Int) ∧ Q65 u v S (pRedo S).2.2) → P (pRedo S).2.1 v) : F_X12_redo u P := by
  unfold F_X12_redo
  rintro _ rfl
  have R' := RM_thr (x := 0) hB R
  have f : FrM wUm u (uI u 0 0 0) := FrM_uI FrM_rf (wHas_i (by decide))
  have z0 : mI (uI u 0 0 0) 0 0 = 0 := by rw [mI_uI, if_pos ⟨rfl, rfl⟩]
  generalize hv : uI u 0 0 0 = v at R' f z0 ⊢
  obtain ⟨⟨n1, n2⟩, ht, hl, hb, hk, hq⟩ := id R'
  obtain ⟨hw, ⟨d1, d2, d3, d4⟩, hd, hu⟩ := hk
  obtain ⟨bw, ⟨b1, b2, b3⟩, bd, bu⟩ := hB.2.2.2.1
  unfold pRedo at h
  rw [d2]
  by_cases e : S.2.2.2.1.2.2.2.1 = 0
  · rw [if_pos e]; rw [if_pos e] at h
    exact i_throwing (h _ (RM_thr hB R') (FrM_uI f (wHas_i (by decide))) ⟨by rw [mI_uI, if_pos ⟨rfl, rfl⟩]; rfl, by rw [← hv]; exact Q65_t⟩)
  · rw [if_neg e]; rw [if_neg e] at h
    rintro _ rfl
    rw [d1, w32e (x := S.2.2.2.1.2.1 + 1) (by omega) (by omega), mI_uI, if_pos ⟨rfl, rfl⟩, w32e (x := S.2.2.2.1.2.1 + 1 - 1) (by omega) (by omega), show S.2.2.2.1.2.1 + 1 - 1 = S.2.2.2.1.2.1 by omega]
    generalize hx0 : uI v 0 16 (S.2.2.2.1.2.1 + 1) = x0
    have r15 : mI x0 0 15 = mI v 0 15 := by rw [← hx0, mI_uI, if_neg (by omega)]
    have r17 : mI x0 0 17 = S.2.2.2.1.2.2.2.1 := by rw [← hx0, mI_uI, if_neg (by omega)]; exact d2
    have r16 : mI x0 0 16 = S.2.2.2.1.2.1 + 1 := by rw [← hx0, mI_uI, if_pos ⟨rfl, rfl⟩]
    have r0 : mI x0 0 0 = 0 := by rw [← hx0, mI_uI, if_neg (by omega)]; exact z0
    have s0 : ∀ s, SlM v x0 s s := fun s => by rw [← hx0]; exact SlM_65 (SlM_fr (L := []) FrM_rf (by decide))
    refine i_stepAt (by omega) (by omega) (by omega) (by omega) ?_
    rw [r15]
    refine i_copySheet (by omega) (by omega) (by omega) (by omega) ?_
    rintro _ rfl
    rw [mF0 (Or.inl rfl) (by omega), r17, w32e (x := S.2.2.2.1.2.2.2.1 - 1) (by omega) (by omega), mI_uI, if_pos ⟨rfl, rfl⟩, w32e (x := 81 + (S.2.2.2.1.2.2.2.1 - 1)) (by omega) (by omega)]
    generalize hx1 : uI (cpF x0 40 (41 + (mI v 0 15 + S.2.2.2.1.2.1) % 40)) 0 17 (S.2.2.2.1.2.2.2.1 - 1) = x1
    have q15 : mI x1 0 15 = mI v 0 15 := by rw [← hx1, mI_uI, if_neg (by omega), mF0 (Or.inl rfl) (by omega)]; exact r15
    have q16 : mI x1 0 16 = S.2.2.2.1.2.1 + 1 := by rw [← hx1, mI_uI, if_neg (by omega), mF0 (Or.inl rfl) (by omega)]; exact r16
    have q17 : mI x1 0 17 = S.2.2.2.1.2.2.2.1 - 1 := by rw [← hx1, mI_uI, if_pos ⟨rfl, rfl⟩]
    have q0 : mI x1 0 0 = 0 := by rw [← hx1, mI_uI, if_neg (by omega), mF0 (Or.inl rfl) (by omega)]; exact r0
    have s1 : ∀ s, s ≠ 41 + (mI v 0 15 + S.2.2.2.1.2.1) % 40 → SlM v x1 s s := fun s hs => by rw [← hx1]; exact SlM_65 (SlM_tr (s0 s) (SlM_fo hs))
    have s2 : SlM v x1 40 (41 + (mI v 0 15 + S.2.2.2.1.2.1) % 40) := by rw [← hx1]; exact SlM_65 (SlM_tr (s0 40) SlM_f)
    have fx : ∀ w, FrM wUm w v → FrM wUm w x1 := fun w fw => by rw [← hx1, ← hx0]; exact FrM_uI (FrM_cpF (FrM_uI fw (wHas_i (by decide))) (by decide) (by decide)) (wHas_i (by decide))
    refine i_copySheet (by omega) (by omega) (by omega) (by omega) ?_
    rw [mF0 (Or.inl rfl) (by omega), q17]
    generalize hx2 : cpF x1 (81 + (S.2.2.2.1.2.2.2.1 - 1)) 40 = x2
    have p : ∀ i, i ≠ 65 → mI x2 0 i = mI x1 0 i := fun i hi => by rw [← hx2]; exact mF0 (Or.inl rfl) (fun _ => hi)
    have t1 : ∀ s, s ≠ 40 → SlM x1 x2 s s := fun s hs => by rw [← hx2]; exact SlM_fo hs
    have t2 : SlM x1 x2 (81 + (S.2.2.2.1.2.2.2.1 - 1)) 40 := by rw [← hx2]; exact SlM_f
    have fv : FrM wUm v x2 := by rw [← hx2]; exact FrM_cpF (fx v FrM_rf) (by decide) (by decide)
    have g := Grw_fr n1.1 fv (by decide)
    have e19 := mE fv (R := rgC) (by decide) (k := 0) (i := 19) (wHas_i (by decide))
    have e24 := mE fv (R := rgC) (by decide) (k := 0) (i := 24) (wHas_i (by decide))
    refine h x2 ⟨by rw [e19, e24]; exact ⟨n1, n2⟩, RMt_fr fv (by decide) ht, RMl_fr fv (by decide) (fun k a c => (hB.2.1.2 k a c).1) g (fun k a c => (by have c' : k < S.2.1.1 := c; have := hB.2.1.1; exact SlM_tr (s1 k (by omega)) (t1 k (by omega)))) hl, RMb_fr fv (by decide) hb, ?_, RMq_fr fv (by decide) g hq⟩ (by rw [← hx2]; exact FrM_cpF (fx u f) (by decide) (by decide)) ⟨by rw [p 0 (by decide)]; exact q0, Or.inl (by rw [← hx2]; exact cpF_65)⟩
    refine ⟨ShM_s (bu _ (by omega) (by omega)) g (SlM_tr (s1 _ (by omega)) t2) (hu _ (by omega) (by omega)), ⟨(p 16 (by decide)).trans q16, (p 17 (by decide)).trans q17, by rw [p 15 (by decide), q15]; exact ⟨d3, d4⟩⟩, fun k k0 k1 => ?_, fun k k0 k1 => ?_⟩
    · simp only at k1
      rw [p 15 (by decide), q15]
      by_cases ck : k = S.2.2.2.1.2.1
      · simp only [if_pos ck]
        rw [ck]
        exact ShM_s bw g (SlM_tr s2 (t1 _ (by omega))) hw
      · simp only [if_neg ck]
        exact ShM_s (bd k k0 (by omega)) g (SlM_tr (s1 _ (by omega)) (t1 _ (by omega))) (hd k k0 (by omega))
    · simp only at k1
      exact ShM_s (bu k k0 (by omega)) g (SlM_tr (s1 _ (by omega)) (t1 _ (by omega))) (hu k k0 (by omega))
