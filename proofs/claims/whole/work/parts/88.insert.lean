/-! ===== insert, remove, move of the system ===== -/
/-- one more line has come -/
def nxt (S : SS) (ax : Int) : Int := if ax = 0 then S.2.2.1.2.2.2.2.2.1 else S.2.2.1.2.2.2.2.2.2
def bmp (S : SS) (ax : Int) : SS := (S.1, S.2.1, (S.2.2.1.1, S.2.2.1.2.1, S.2.2.1.2.2.1, S.2.2.1.2.2.2.1, S.2.2.1.2.2.2.2.1, (if ax = 0 then S.2.2.1.2.2.2.2.2.1 + 1 else S.2.2.1.2.2.2.2.2.1), (if ax = 0 then S.2.2.1.2.2.2.2.2.2 else S.2.2.1.2.2.2.2.2.2 + 1)), S.2.2.2)
def wNc : WR := [(0, some 16), (0, some 17)]
theorem o_newcomer {z : Z} {b : Nat → Nat} {I : Nat → Prop} {S : SS} {ax : Int} {P : Int → Z → Prop} (R : RC z b I S) (hN : S.2.2.1.2.2.2.2.2.1 ≤ 999999 ∧ S.2.2.1.2.2.2.2.2.2 ≤ 999999) (h : ∀ y, FrZ (WL z b wNc no1 no1) z y → RC y b I (bmp S ax) → P (nxt S ax + 1) y) : F_X11_newcomer (b 0) ax z P := by
  obtain ⟨c, r, ht, hl, hb, hk, hq⟩ := id R
  obtain ⟨g1, g2, g3, g4, g5, g6, g7⟩ := hb
  have n90 : b 9 ≠ b 0 := cNe c rfl rfl rfl
  unfold F_X11_newcomer
  by_cases e : ax = 0
  · rw [if_pos e]
    refine ⟨cK c 0 rfl rfl, ?_⟩
    rintro _ rfl
    rw [g6.1, w32e (by omega) (by omega), zI_wI, if_pos ⟨rfl, rfl⟩]
    have f : FrZ (WL z b wNc no1 no1) z (wI z (b 0) 16 (S.2.2.1.2.2.2.2.2.1 + 1)) := FrZ_wI FrZ_rf (Or.inl (WL_i (by decide) (by decide)))
    have q := h _ f ⟨CWz_fr c f (by decide), Frz_fr r f, RCt_fr c f (by decide) ht, RCl_fr c r f (by decide) hl, ?_, RCk_fr c r f (by decide) hk, RCq_fr c r f (by decide) hq⟩
    · unfold nxt at q; rw [if_pos e] at q; exact q
    · unfold bmp RCb
      dsimp only
      rw [if_pos e, if_pos e]
      refine ⟨fun k k0 k1 => by rw [zI_wI, if_neg (fun w => n90 w.1)]; exact g1 k k0 k1, ⟨by rw [zI_wI, if_neg (by omega)]; exact g2.1, g2.2⟩, ⟨by rw [zI_wI, if_neg (by omega)]; exact g3.1, g3.2⟩, ⟨by rw [zI_wI, if_neg (by omega)]; exact g4.1, g4.2⟩, ⟨by rw [zI_wI, if_neg (by omega)]; exact g5.1, g5.2⟩, ⟨by rw [zI_wI, if_pos ⟨rfl, rfl⟩], by omega, by omega⟩, ⟨by rw [zI_wI, if_neg (by omega)]; exact g7.1, g7.2⟩⟩
  · rw [if_neg e]
    refine ⟨cK c 0 rfl rfl, ?_⟩
    rintro _ rfl
    rw [g7.1, w32e (by omega) (by omega), zI_wI, if_pos ⟨rfl, rfl⟩]
    have f : FrZ (WL z b wNc no1 no1) z (wI z (b 0) 17 (S.2.2.1.2.2.2.2.2.2 + 1)) := FrZ_wI FrZ_rf (Or.inl (WL_i (by decide) (by decide)))
    have q := h _ f ⟨CWz_fr c f (by decide), Frz_fr r f, RCt_fr c f (by decide) ht, RCl_fr c r f (by decide) hl, ?_, RCk_fr c r f (by decide) hk, RCq_fr c r f (by decide) hq⟩
    · unfold nxt at q; rw [if_neg e] at q; exact q
    · unfold bmp RCb
      dsimp only
      rw [if_neg e, if_neg e]
      refine ⟨fun k k0 k1 => by rw [zI_wI, if_neg (fun w => n90 w.1)]; exact g1 k k0 k1, ⟨by rw [zI_wI, if_neg (by omega)]; exact g2.1, g2.2⟩, ⟨by rw [zI_wI, if_neg (by omega)]; exact g3.1, g3.2⟩, ⟨by rw [zI_wI, if_neg (by omega)]; exact g4.1, g4.2⟩, ⟨by rw [zI_wI, if_neg (by omega)]; exact g5.1, g5.2⟩, ⟨by rw [zI_wI, if_neg (by omega)]; exact g6.1, g6.2⟩, ⟨by rw [zI_wI, if_pos ⟨rfl, rfl⟩], by omega, by omega⟩⟩
theorem o_isAxis {ax : Int} {P : Int → Prop} (h : P (tb (ax = 0 ∨ ax = 1))) : F_X11_isAxis ax P := by
  unfold F_X11_isAxis F_X11_isAxis_9 F_X11_isAxis_14
  by_cases e : ax = 0
  · rw [if_pos e]; rw [tb, if_pos (Or.inl e)] at h; exact ⟨z1_1, h⟩
  · rw [if_neg e]
    by_cases e2 : ax = 1
    · rw [if_pos e2]; rw [tb, if_pos (Or.inr e2)] at h; exact ⟨z1_1, h⟩
    · rw [if_neg e2]; rw [tb, if_neg (by omega)] at h; exact ⟨z1_0, h⟩
theorem o_line {z : Z} {I : Nat → Prop} {a : Nat} {s : Sh} {ax : Int} {P : Option Nat → Prop} (hs : ShC z I a s) (h : ∀ la, I la → zK z la = 15 → zN z la = lnS s ax → (∀ k, 0 ≤ k → k < lnS s ax → zI z la k = idS s ax k + 1) → P (some la)) : F_X6_line a ax z P := by
  obtain ⟨ra, ca, xa, Sp, i1, i2, i3, g4, g5, g6⟩ := hs
  refine k_line Sp ?_
  by_cases e : ax = 0
  · rw [if_pos e]
    refine h ra i1 Sp.2.2.2.2.1 ?_ (fun k a c => ?_)
    · unfold lnS; rw [if_pos e]; exact Sp.2.2.2.2.2.2.2.1
    · unfold lnS at c; unfold idS; rw [if_pos e] at c ⊢; exact g4 k a c
  · rw [if_neg e]
    refine h ca i2 Sp.2.2.2.2.2.1 ?_ (fun k a c => ?_)
    · unfold lnS; rw [if_neg e]; exact Sp.2.2.2.2.2.2.2.2.1
    · unfold lnS at c; unfold idS; rw [if_neg e] at c ⊢; exact g5 k a c
theorem newNb {z : Z} {b : Nat → Nat} {a : Nat} (c : CWz z b) (h : zK z a = 0) : ∀ k, k < 35 → a ≠ b k := fun k hk e => (ckz_k k hk).2.2 (by rw [← (c.1 k hk).1, ← e]; exact h)
def pInsert (ax p : Int) (S : SS) : Nat × Int × SS := if ax = 0 ∨ ax = 1 then (if 1 ≤ p ∧ p ≤ lnS S.2.2.2.1.1 ax + 1 then (if lnS S.2.2.2.1.1 ax < mst ax then (0, lnS S.2.2.2.1.1 ax + 1, setW (pStep0 (bmp S ax)) (shA S.2.2.2.1.1 ax (lnS S.2.2.2.1.1 ax + 1) (wthF (idS S.2.2.2.1.1 ax) p (nxt S ax)))) else (3, 0, S)) else (2, 0, S)) else (1, 0, S)
def wIn : WR := [(0, some 16), (0, some 17), (6, some 2), (6, some 3), (32, none), (33, none), (0, some 11)]
theorem FrZ_add {z y w : Z} {b : Nat → Nat} {L L' : WR} {T : Nat → Prop} (f : FrZ (WL z b L no1 no1) z y) (g : FrZ (WL y b L' (wkT y b) no1) y w) (e : zO y (b 0) 11 = zO z (b 0) 11) {M : WR} (h1 : ∀ t ∈ L, t ∈ M) (h2 : ∀ t ∈ L', t ∈ M) : FrZ (WL z b M (wkT z b) no1) z w := by
  refine FrZ_wl (y := y) (FrZ_mono f (fun a i ha w => ?_)) (FrZ_mono g (fun a i ha w => ?_))
  · rcases w with ⟨t, t1, t2⟩ | w | w
    · exact Or.inl ⟨t, h1 t t1, t2⟩
    · exact absurd w.1 id
    · exact absurd w.1 id
  · rcases w with ⟨t, t1, t2⟩ | w | w
    · exact Or.inl ⟨t, h2 t t1, t2⟩
    · exact Or.inr (Or.inl ⟨by show zO z (b 0) 11 = some a; rw [← e]; exact w.1, w.2⟩)
    · exact absurd w.1 id
theorem o_insert {z : Z} {b : Nat → Nat} {I : Nat → Prop} {S : SS} {ax p : Int} {cc ss : Nat} {P : Int → Z → Prop} {X : Nat → Z → Prop} (R : RC z b I S) (hN : S.2.2.1.2.2.2.2.2.1 ≤ 999999 ∧ S.2.2.1.2.2.2.2.2.2 ≤ 999999) (hcc : 3 ≤ cc) (hss : 388 ≤ ss) (hx1 : (pInsert ax p S).1 = 1 → X 1 z) (hx2 : (pInsert ax p S).1 = 2 → X 0 z) (hx3 : (pInsert ax p S).1 = 3 → X 3 z) (h : (pInsert ax p S).1 = 0 → ∀ y J, GrI z I J → FrZ (WL z b wIn (wkT z b) no1) z y → RC y b J (pInsert ax p S).2.2 → WkN z y b → P (pInsert ax p S).2.1 y) : F_X11_insert (b 0) ax p z cc ss P X := by
  obtain ⟨cw, fr, ht, hl, hb, hk, hq⟩ := id R
  obtain ⟨wa, hw, sw⟩ := hk.1
  have bw := ShC_b sw
  unfold F_X11_insert F_X11_insert_37
  unfold pInsert at hx1 hx2 hx3 h
  refine o_isAxis ?_
  by_cases e : ax = 0 ∨ ax = 1
  · rw [show tb (ax = 0 ∨ ax = 1) = 1 by rw [tb, if_pos e], if_neg (by decide)]
    rw [if_pos e] at hx1 hx2 hx3 h
    refine ⟨cK cw 0 rfl rfl, wa, hw, ShC_7 sw, o_line sw (fun la il kl nl hi => ?_)⟩
    have lb := lnS_b bw ax
    have mb : mst ax ≤ 32 := by unfold mst; split <;> omega
    by_cases e1 : p < 1
    · rw [if_pos e1]; rw [if_neg (by omega)] at hx2; exact ⟨by omega, by omega, hx2 rfl⟩
    · rw [if_neg e1]
      refine ⟨la, rfl, kl, ?_⟩
      rw [nl, w32e (x := lnS S.2.2.2.1.1 ax + 1) (by omega) (by omega)]
      by_cases e2 : p ≤ lnS S.2.2.2.1.1 ax + 1
      · rw [if_pos e2]; rw [if_pos (by omega)] at hx3 h
        have mo : ∀ Q : Int → Prop, Q (mst ax) → F_X11_mostOf ax Q := fun Q hQ => by
          unfold F_X11_mostOf F_X11_mostOf_11; unfold mst at hQ
          split
          · next c => rw [if_pos c] at hQ; exact hQ
          · next c => rw [if_neg c] at hQ; exact hQ
        refine mo _ ?_
        by_cases e3 : lnS S.2.2.2.1.1 ax < mst ax
        · rw [if_pos e3]; rw [if_pos e3] at h
          refine o_newcomer R hN (fun z1 f1 R1 => ?_)
          have kl1 : zK z1 la = 15 := (f1.1 la (by rw [kl]; decide)).1.trans kl
          have nl1 : zN z1 la = lnS S.2.2.2.1.1 ax := (f1.1 la (by rw [kl]; decide)).2.trans nl
          have hi1 : ∀ k, zI z1 la k = zI z la k := fun k => (f1.2 la k (by rw [kl]; decide) (WL_I fr la k il)).1
          refine ⟨1, 64, by omega, by omega, k_with kl1 nl1 (by omega) (by omega) (by omega) e2 (by omega) (by omega) (fun a y1 ha fn ka na hia => ?_)⟩
          have R2 := RC_nW fn R1
          have e11 : zO y1 (b 0) 11 = zO z (b 0) 11 := by
            rw [(fn.2 (b 0) 11 (by rw [cK R1.1 0 rfl rfl]; decide) (fun w => w)).2.2]
            exact (bI cw f1 (R := [(0, some 11)]) (by decide) (k := 0) (by decide) (i := 11) (wHas_i (by decide))).2.2
          have sw1 : ShC z1 I wa S.2.2.2.1.1 := ShC_fr f1 (WL_I fr) (WL_7 cw) sw
          have sw2 : ShC y1 I wa S.2.2.2.1.1 := ShC_fr fn (fun _ _ _ w => w) (fun _ _ _ w => w.elim) sw1
          refine ⟨cK R2.1 0 rfl rfl, wa, e11.trans hw, ShC_7 sw2, 2, 324, by omega, by omega, ?_⟩
          refine o_shape (ids := wthF (idS S.2.2.2.1.1 ax) p (nxt S ax)) R2 sw2 e ka (fun k hk => ?_) na (by omega) (by omega) (fun k k0 k1 => ?_) (by omega) (by omega) (fun q y J iJ fy zq sq q3 RJ => ?_)
          · exact newNb R1.1 ha k hk
          · rw [hia k k0 k1]
            unfold wthF
            by_cases c1 : k = p - 1
            · rw [if_pos c1, if_pos c1]
            · rw [if_neg c1, if_neg c1]
              by_cases c2 : k < p - 1
              · rw [if_pos c2, if_pos c2, hi1]; exact hi k k0 (by omega)
              · rw [if_neg c2, if_neg c2, hi1]; exact hi (k - 1) (by omega) (by omega)
          · refine ⟨cK RJ.1 0 rfl rfl, o_step RJ sq (fun w fw ew Rw => ?_)⟩
            have ka2 : zK w a = 15 ∧ zN w a = lnS S.2.2.2.1.1 ax + 1 := by
              have q1 := fy.1 a (by rw [ka]; decide)
              have q2 := fw.1 a (by rw [q1.1, ka]; decide)
              exact ⟨q2.1.trans (q1.1.trans ka), q2.2.trans (q1.2.trans na)⟩
            refine ⟨a, rfl, ka2.1, ?_⟩
            rw [ka2.2]
            have ey : zO y (b 0) 11 = zO z (b 0) 11 := by
              rw [(fy.2 (b 0) 11 (by rw [cK R2.1 0 rfl rfl]; decide) (fun w => w)).2.2]; exact e11
            refine h rfl w J (GrI_pre f1 (GrI_L fn iJ ha)) ?_ Rw (WkN_pre cw f1 (by decide) (WkN_pre (L := []) (T := no1) (C := no1) (CWz_fr cw f1 (by decide)) (FrZ_mono fn (fun _ _ _ w => w.elim)) rfl (WkN_nw R2.1 fy zq q3 RJ.1 (ShC_7 sq) fw ew)))
            · refine FrZ_add (T := no1) (y := y) (L := wNc) (L' := wSt) ?_ fw ey (by decide) (by decide)
              exact FrZ_wl f1 (FrZ_wl (y := y1) (FrZ_mono fn (fun _ _ _ w => w.elim)) (FrZ_mono fy (fun _ _ _ w => w.elim)))
        · rw [if_neg e3]; rw [if_neg e3] at hx3; exact ⟨by omega, by omega, hx3 rfl⟩
      · rw [if_neg e2]; rw [if_neg (by omega)] at hx2; exact ⟨by omega, by omega, hx2 rfl⟩
  · rw [show tb (ax = 0 ∨ ax = 1) = 0 by rw [tb, if_neg e], if_pos rfl]
    rw [if_neg e] at hx1; exact ⟨by omega, by omega, hx1 rfl⟩
