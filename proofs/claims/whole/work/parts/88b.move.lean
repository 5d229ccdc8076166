/-! ===== remove, move of the system ===== -/
def pRemove (ax p : Int) (S : SS) : Nat × Int × SS := if ax = 0 ∨ ax = 1 then (if 1 ≤ p ∧ p ≤ lnS S.2.2.2.1.1 ax then (if lnS S.2.2.2.1.1 ax = 1 then (3, 0, S) else (0, lnS S.2.2.2.1.1 ax - 1, setW (pStep0 S) (shA S.2.2.2.1.1 ax (lnS S.2.2.2.1.1 ax - 1) (wotF (idS S.2.2.2.1.1 ax) p)))) else (2, 0, S)) else (1, 0, S)
def pMove (ax p t : Int) (S : SS) : Nat × Int × SS := if ax = 0 ∨ ax = 1 then (if (1 ≤ p ∧ p ≤ lnS S.2.2.2.1.1 ax) ∧ 1 ≤ t ∧ t ≤ lnS S.2.2.2.1.1 ax then (0, (if p = t then 0 else if t ≤ p then p - t + 1 else t - p + 1), setW (pStep0 S) (shA S.2.2.2.1.1 ax (lnS S.2.2.2.1.1 ax) (wthF (wotF (idS S.2.2.2.1.1 ax) p) t (idS S.2.2.2.1.1 ax (p - 1))))) else (2, 0, S)) else (1, 0, S)
theorem o_remove {z : Z} {b : Nat → Nat} {I : Nat → Prop} {S : SS} {ax p : Int} {cc ss : Nat} {P : Int → Z → Prop} {X : Nat → Z → Prop} (R : RC z b I S) (hcc : 3 ≤ cc) (hss : 388 ≤ ss) (hx1 : (pRemove ax p S).1 = 1 → X 1 z) (hx2 : (pRemove ax p S).1 = 2 → X 0 z) (hx3 : (pRemove ax p S).1 = 3 → X 3 z) (h : (pRemove ax p S).1 = 0 → ∀ y J, GrI z I J → FrZ (WL z b wSt (wkT z b) no1) z y → RC y b J (pRemove ax p S).2.2 → WkN z y b → P (pRemove ax p S).2.1 y) : F_X11_remove (b 0) ax p z cc ss P X := by
  obtain ⟨cw, fr, ht, hl, hb, hk, hq⟩ := id R
  obtain ⟨wa, hw, sw⟩ := hk.1
  have bw := ShC_b sw
  unfold F_X11_remove F_X11_remove_35
  unfold pRemove at hx1 hx2 hx3 h
  refine o_isAxis ?_
  by_cases e : ax = 0 ∨ ax = 1
  · rw [show tb (ax = 0 ∨ ax = 1) = 1 by rw [tb, if_pos e], if_neg (by decide)]
    rw [if_pos e] at hx1 hx2 hx3 h
    refine ⟨cK cw 0 rfl rfl, wa, hw, ShC_7 sw, o_line sw (fun la il kl nl hi => ?_)⟩
    have lb := lnS_b bw ax
    have mb : mst ax ≤ 32 := by unfold mst; split <;> omega
    by_cases e1 : p < 1
    · rw [if_pos e1]; rw [if_neg (by omega)] at hx2; exact ⟨by omega, by omega, hx2 rfl⟩
    · rw [if_neg e1]
      refine ⟨la, rfl, kl, ?_⟩
      rw [nl]
      by_cases e2 : p ≤ lnS S.2.2.2.1.1 ax
      · rw [if_pos e2]; rw [if_pos (by omega)] at hx3 h
        by_cases e3 : lnS S.2.2.2.1.1 ax = 1
        · rw [if_pos e3]; rw [if_pos e3] at hx3; exact ⟨by omega, by omega, hx3 rfl⟩
        · rw [if_neg e3]; rw [if_neg e3] at h
          refine ⟨1, 64, by omega, by omega, k_without kl nl (by omega) (by omega) (by omega) e2 (by omega) (by omega) (fun a y1 ha fn ka na hia => ?_)⟩
          have R2 := RC_nW fn R
          have e11 : zO y1 (b 0) 11 = zO z (b 0) 11 := (fn.2 (b 0) 11 (by rw [cK cw 0 rfl rfl]; decide) (fun w => w)).2.2
          have sw2 : ShC y1 I wa S.2.2.2.1.1 := ShC_fr fn (fun _ _ _ w => w) (fun _ _ _ w => w.elim) sw
          refine ⟨wa, hw, ShC_7 sw2, 2, 324, by omega, by omega, ?_⟩
          refine o_shape (ids := wotF (idS S.2.2.2.1.1 ax) p) R2 sw2 e ka (newNb cw ha) na (by omega) (by omega) (fun k k0 k1 => ?_) (by omega) (by omega) (fun q y J iJ fy zq sq q3 RJ => ?_)
          · rw [hia k k0 k1]
            unfold wotF
            by_cases c2 : k < p - 1
            · rw [if_pos c2, if_pos c2]; exact hi k k0 (by omega)
            · rw [if_neg c2, if_neg c2]; exact hi (k + 1) (by omega) (by omega)
          · refine ⟨cK RJ.1 0 rfl rfl, o_step RJ sq (fun w fw ew Rw => ?_)⟩
            have ka2 : zK w la = 15 ∧ zN w la = lnS S.2.2.2.1.1 ax := by
              have q0 := fn.1 la (by rw [kl]; decide)
              have q1 := fy.1 la (by rw [q0.1, kl]; decide)
              have q2 := fw.1 la (by rw [q1.1, q0.1, kl]; decide)
              exact ⟨q2.1.trans (q1.1.trans (q0.1.trans kl)), q2.2.trans (q1.2.trans (q0.2.trans nl))⟩
            refine ⟨la, rfl, ka2.1, ?_⟩
            rw [ka2.2, w32e (by omega) (by omega)]
            have ey : zO y (b 0) 11 = zO z (b 0) 11 := by
              rw [(fy.2 (b 0) 11 (by rw [cK R2.1 0 rfl rfl]; decide) (fun w => w)).2.2]; exact e11
            refine h rfl w J (GrI_L fn iJ ha) ?_ Rw (WkN_pre (L := []) (T := no1) (C := no1) cw (FrZ_mono fn (fun _ _ _ w => w.elim)) rfl (WkN_nw R2.1 fy zq q3 RJ.1 (ShC_7 sq) fw ew))
            · refine FrZ_add (T := no1) (y := y) (L := []) (L' := wSt) ?_ fw ey (by decide) (by decide)
              exact FrZ_wl (y := y1) (FrZ_mono fn (fun _ _ _ w => w.elim)) (FrZ_mono fy (fun _ _ _ w => w.elim))
      · rw [if_neg e2]; rw [if_neg (by omega)] at hx2; exact ⟨by omega, by omega, hx2 rfl⟩
  · rw [show tb (ax = 0 ∨ ax = 1) = 0 by rw [tb, if_neg e], if_pos rfl]
    rw [if_neg e] at hx1; exact ⟨by omega, by omega, hx1 rfl⟩
theorem o_move {z : Z} {b : Nat → Nat} {I : Nat → Prop} {S : SS} {ax p t : Int} {cc ss : Nat} {P : Int → Z → Prop} {X : Nat → Z → Prop} (R : RC z b I S) (hcc : 4 ≤ cc) (hss : 452 ≤ ss) (hx1 : (pMove ax p t S).1 = 1 → X 1 z) (hx2 : (pMove ax p t S).1 = 2 → X 0 z) (h : (pMove ax p t S).1 = 0 → ∀ y J, GrI z I J → FrZ (WL z b wSt (wkT z b) no1) z y → RC y b J (pMove ax p t S).2.2 → WkN z y b → P (pMove ax p t S).2.1 y) : F_X11_move (b 0) ax p t z cc ss P X := by
  obtain ⟨cw, fr, ht, hl, hb, hk, hq⟩ := id R
  obtain ⟨wa, hw, sw⟩ := hk.1
  have bw := ShC_b sw
  unfold F_X11_move F_X11_move_49 F_X11_move_102
  unfold pMove at hx1 hx2 h
  refine o_isAxis ?_
  by_cases e : ax = 0 ∨ ax = 1
  · rw [show tb (ax = 0 ∨ ax = 1) = 1 by rw [tb, if_pos e], if_neg (by decide)]
    rw [if_pos e] at hx1 hx2 h
    refine ⟨cK cw 0 rfl rfl, wa, hw, ShC_7 sw, o_line sw (fun la il kl nl hi => ?_)⟩
    have lb := lnS_b bw ax
    have mb : mst ax ≤ 32 := by unfold mst; split <;> omega
    by_cases e1 : p < 1
    · rw [if_pos e1]; rw [if_neg (by omega)] at hx2; exact ⟨by omega, by omega, hx2 rfl⟩
    · rw [if_neg e1]
      refine ⟨la, rfl, kl, ?_⟩
      rw [nl]
      by_cases e2 : lnS S.2.2.2.1.1 ax < p
      · rw [if_pos e2]; rw [if_neg (by omega)] at hx2; exact ⟨by omega, by omega, hx2 rfl⟩
      · rw [if_neg e2]
        by_cases e3 : t < 1
        · rw [if_pos e3]; rw [if_neg (by omega)] at hx2; exact ⟨by omega, by omega, hx2 rfl⟩
        · rw [if_neg e3]
          by_cases e4 : t ≤ lnS S.2.2.2.1.1 ax
          · rw [if_pos e4]; rw [if_pos (by omega)] at h
            refine ⟨1, 64, by omega, by omega, k_without kl nl (by omega) (by omega) (by omega) (by omega) (by omega) (by omega) (fun a y1 ha fn ka na hia => ?_)⟩
            have kl1 : zK y1 la = 15 := (fn.1 la (by rw [kl]; decide)).1.trans kl
            have nl1 : zN y1 la = lnS S.2.2.2.1.1 ax := (fn.1 la (by rw [kl]; decide)).2.trans nl
            refine ⟨la, rfl, kl1, ?_⟩
            rw [w32e (x := p - 1) (by omega) (by omega), nl1]
            refine ⟨by omega, by omega, ?_⟩
            have eI : zI y1 la (p - 1) = idS S.2.2.2.1.1 ax (p - 1) + 1 := by
              rw [(fn.2 la _ (by rw [kl]; decide) (fun w => w)).1]; exact hi (p - 1) (by omega) (by omega)
            rw [eI]
            refine ⟨1, 64, by omega, by omega, k_with ka na (by omega) (by omega) (by omega) (by omega) (by omega) (by omega) (fun a2 y2 ha2 fn2 ka2 na2 hia2 => ?_)⟩
            have R1 := RC_nW fn R
            have R2 := RC_nW fn2 R1
            have e11 : zO y2 (b 0) 11 = zO z (b 0) 11 := by
              rw [(fn2.2 (b 0) 11 (by rw [cK R1.1 0 rfl rfl]; decide) (fun w => w)).2.2]
              exact (fn.2 (b 0) 11 (by rw [cK cw 0 rfl rfl]; decide) (fun w => w)).2.2
            have sw1 : ShC y1 I wa S.2.2.2.1.1 := ShC_fr fn (fun _ _ _ w => w) (fun _ _ _ w => w.elim) sw
            have sw2 : ShC y2 I wa S.2.2.2.1.1 := ShC_fr fn2 (fun _ _ _ w => w) (fun _ _ _ w => w.elim) sw1
            refine ⟨wa, hw, ShC_7 sw2, 2, 324, by omega, by omega, ?_⟩
            refine o_shape (n := lnS S.2.2.2.1.1 ax) (ids := wthF (wotF (idS S.2.2.2.1.1 ax) p) t (idS S.2.2.2.1.1 ax (p - 1))) R2 sw2 e ka2 (newNb R1.1 ha2) (by rw [na2]; omega) (by omega) (by omega) (fun k k0 k1 => ?_) (by omega) (by omega) (fun q y J iJ fy zq sq q3 RJ => ?_)
            · rw [hia2 k k0 (by omega)]
              have ex : ∀ j, 0 ≤ j → j < lnS S.2.2.2.1.1 ax - 1 → zI y1 a j = wotF (idS S.2.2.2.1.1 ax) p j + 1 := fun j j0 j1 => by
                rw [hia j j0 j1]
                unfold wotF
                by_cases c2 : j < p - 1
                · rw [if_pos c2, if_pos c2]; exact hi j j0 (by omega)
                · rw [if_neg c2, if_neg c2]; exact hi (j + 1) (by omega) (by omega)
              unfold wthF
              by_cases c1 : k = t - 1
              · rw [if_pos c1, if_pos c1]
              · rw [if_neg c1, if_neg c1]
                by_cases c2 : k < t - 1
                · rw [if_pos c2, if_pos c2]; exact ex k k0 (by omega)
                · rw [if_neg c2, if_neg c2]; exact ex (k - 1) (by omega) (by omega)
            · refine ⟨cK RJ.1 0 rfl rfl, o_step RJ sq (fun w fw ew Rw => ?_)⟩
              have ey : zO y (b 0) 11 = zO z (b 0) 11 := by
                rw [(fy.2 (b 0) 11 (by rw [cK R2.1 0 rfl rfl]; decide) (fun w => w)).2.2]; exact e11
              have fin := h rfl w J (GrI_pre fn (GrI_L fn2 iJ ha2)) (by
                refine FrZ_add (T := no1) (y := y) (L := []) (L' := wSt) ?_ fw ey (by decide) (by decide)
                exact FrZ_wl (y := y1) (FrZ_mono fn (fun _ _ _ w => w.elim)) (FrZ_wl (y := y2) (FrZ_mono fn2 (fun _ _ _ w => w.elim)) (FrZ_mono fy (fun _ _ _ w => w.elim)))) Rw (WkN_pre (L := []) (T := no1) (C := no1) cw (FrZ_mono fn (fun _ _ _ w => w.elim)) rfl (WkN_pre (L := []) (T := no1) (C := no1) R1.1 (FrZ_mono fn2 (fun _ _ _ w => w.elim)) rfl (WkN_nw R2.1 fy zq q3 RJ.1 (ShC_7 sq) fw ew)))
              dsimp only at fin
              by_cases c1 : p = t
              · rw [if_pos c1]; rw [if_pos c1] at fin; exact fin
              · rw [if_neg c1]; rw [if_neg c1] at fin
                rw [w32e (x := p - t) (by omega) (by omega)]
                by_cases c2 : t ≤ p
                · rw [if_pos c2] at fin
                  rw [if_pos (by omega), w32e (by omega) (by omega)]; exact fin
                · rw [if_neg c2] at fin
                  rw [if_neg (by omega), w32e (x := 0 - (p - t)) (by omega) (by omega), w32e (by omega) (by omega), show 0 - (p - t) + 1 = t - p + 1 by omega]; exact fin
          · rw [if_neg e4]; rw [if_neg (by omega)] at hx2; exact ⟨by omega, by omega, hx2 rfl⟩
  · rw [show tb (ax = 0 ∨ ax = 1) = 0 by rw [tb, if_neg e], if_pos rfl]
    rw [if_neg e] at hx1; exact ⟨by omega, by omega, hx1 rfl⟩
