/-! ===== choose: the system ===== -/
/-- the sheet with a conflict settled -/
def chS (w : Sh) (f : Cf) (th : Int) : Sh := if f.1.1 = 3 then (if knowsP w f.1.2.1 f.1.2.2.1 then updS w (plS w 0 f.1.2.1) (plS w 1 f.1.2.2.1) (if th = 0 then f.2.1 else f.2.2.1) else w) else (if th = f.1.2.2.2 ∧ 0 ≤ plS w (f.1.1 - 1) (if f.1.1 = 1 then f.1.2.1 else f.1.2.2.1) ∧ 1 < lnS w (f.1.1 - 1) then shA w (f.1.1 - 1) (lnS w (f.1.1 - 1) - 1) (wotF (idS w (f.1.1 - 1)) (plS w (f.1.1 - 1) (if f.1.1 = 1 then f.1.2.1 else f.1.2.2.1) + 1)) else w)
/-- conflict i settled -/
def setS (S : SS) (i : Int) : SS := (S.1, S.2.1, S.2.2.1, S.2.2.2.1, (S.2.2.2.2.1, (fun k => if k = i then ((S.2.2.2.2.2.1 k).1, (S.2.2.2.2.2.1 k).2.1, (S.2.2.2.2.2.1 k).2.2.1, 1) else S.2.2.2.2.2.1 k), S.2.2.2.2.2.2))
def pChoose (i th : Int) (S : SS) : Nat × Int × SS := if 0 ≤ i ∧ i < S.2.2.2.2.1 then (0, pUns (setS S i), setW (pStep0 (setS S i)) (chS S.2.2.2.1.1 (S.2.2.2.2.2.1 i) th)) else (1, 0, S)
/-- conflicts are of lines or cells -/
def KdP (S : SS) : Prop := ∀ k, 0 ≤ k → k < S.2.2.2.2.1 → 1 ≤ (S.2.2.2.2.2.1 k).1.1 ∧ (S.2.2.2.2.2.1 k).1.1 ≤ 3
theorem RC_set {z : Z} {b : Nat → Nat} {I : Nat → Prop} {S : SS} {i : Int} {ca : Nat} (R : RC z b I S) (hi : 0 ≤ i ∧ i < S.2.2.2.2.1) (hc : zO z (b 30) i = some ca) (k1 : zK z ca = 1) : RC (wI z ca 6 1) b I (setS S i) ∧ FrZ (WL z b [] no1 (fun a => a = ca)) z (wI z ca 6 1) := by
  have f : FrZ (WL z b [] no1 (fun a => a = ca)) z (wI z ca 6 1) := FrZ_wI FrZ_rf (Or.inl (Or.inr (Or.inr ⟨rfl, k1, rfl⟩)))
  obtain ⟨c, r, ht, hl, hb, hk, hq⟩ := R
  refine ⟨⟨CWz_fr c f (by decide), Frz_fr r f, RCt_fr c f (by decide) ht, RCl_fr c r f (by decide) hl, RCb_fr c f (by decide) hb, RCk_fr c r f (by decide) hk, ?_⟩, f⟩
  obtain ⟨⟨q1, q2, q3⟩, q4, q5⟩ := hq
  have bne : ∀ k, k < 35 → ca ≠ b k := fun k hk g => by
    have := (ckz_k k hk).2.1
    rw [← (c.1 k hk).1, ← g] at this
    first | exact absurd k1 this | (exact this k1)
  have e : ∀ (k : Nat) (j : Int), k < 35 → zI (wI z ca 6 1) (b k) j = zI z (b k) j := fun k j hk => by rw [zI_wI, if_neg (fun g => bne k hk g.1.symm)]
  refine ⟨⟨by rw [e 5 2 (by decide)]; exact q1, fun k a l => ?_, fun j k => q3 j k⟩, by rw [e 0 10 (by decide)]; exact q4, fun k a l => by rw [e 10 _ (by decide), e 10 _ (by decide), e 10 _ (by decide)]; exact q5 k a l⟩
  show CfC (wI z ca 6 1) I (zO z (b 30) k) (if k = i then _ else _)
  have l' : k < S.2.2.2.2.1 := l
  by_cases ek : k = i
  · rw [if_pos ek]
    obtain ⟨a', h0, h1, h2, h3, h4, h5, h6, h7, h8, h9⟩ := q2 k a l
    have ea : a' = ca := by rw [ek, hc] at h0; cases h0; rfl
    have nI : ¬ I ca := fun g => (r ca g).2.2.1 k1
    refine ⟨a', h0, h1, by rw [zI_wI, if_neg (by omega)]; exact h2, by rw [zI_wI, if_neg (by omega)]; exact h3, by rw [zI_wI, if_neg (by omega)]; exact h4, by rw [zI_wI, if_neg (by omega)]; exact h5, ContC_fr f (WL_I r) h6, ContC_fr f (WL_I r) h7, by rw [zI_wI, if_pos ⟨ea, rfl⟩], z1_1⟩
  · rw [if_neg ek]
    exact CfC_fr c r f (fun a' h0 g => ek (by
      have h0' : zO z (b 30) k = some a' := h0
      have g' : a' = ca := g
      exact q3 k i a l' hi.1 hi.2 (by rw [h0', g', hc]))) (q2 k a l)
theorem o_settled {z : Z} {b : Nat → Nat} {I : Nat → Prop} {S : SS} {ca : Nat} {f : Cf} {th : Int} {c s : Nat} {P : Option Nat → Z → Prop} (R : RC z b I S) (hf : CfC z I (some ca) f) (kd : 1 ≤ f.1.1 ∧ f.1.1 ≤ 3) (hc : 3 ≤ c) (hs : 388 ≤ s) (h : ∀ q y J, GrI z I J → FrZ nW z y → (zK z q = 0 ∧ zO y q 3 = none) → ShC y J q (chS S.2.2.2.1.1 f th) → RC y b J S → P (some q) y) : F_X11_settled (b 0) (some ca) th z c s P := by
  obtain ⟨cw, r, ht, hl, hb, hk, hq⟩ := id R
  obtain ⟨wa, hwa, sw⟩ := hk.1
  have bw := ShC_b sw
  obtain ⟨ca', h0, k1, e0, e1, e2, e3, c4, c5, e6, z6⟩ := id hf
  cases h0
  unfold F_X11_settled
  refine ⟨cK cw 0 rfl rfl, ca, rfl, k1, wa, hwa, ShC_7 sw, o_placeOf sw (o_placeOf sw ?_)⟩
  rw [e0, e1, e2, Int.add_sub_cancel, Int.add_sub_cancel]
  generalize hw : S.2.2.2.1.1 = w at sw bw h
  have m1 := plS_m w 0 f.1.2.1
  have m2 := plS_m w 1 f.1.2.2.1
  have twin : chS w f th = w → ∀ (c' s' : Nat), 2 ≤ c' → 324 ≤ s' → F_X6_twin wa z c' s' (fun x_167 z_167 => P x_167 z_167) := fun e c' s' hc' hs' => by
    refine k_twinS R sw hc' hs' (fun q y J iJ fn zq sq q3 Ry => h q y J iJ fn ⟨zq, q3⟩ (by rw [e]; exact sq) Ry)
  by_cases e3' : f.1.1 = 3
  · rw [if_pos e3']
    refine ⟨2, 324, by omega, by omega, NS_twin sw (Nat.le_refl _) (Nat.le_refl _) (fun q x ra cc xa y0 ⟨⟨i1, i2⟩, Sp⟩ g4 g5 g6 N0 => ?_)⟩
    have fn := N0.2.2.2.1
    have kca : zK y0 ca = 1 := (fn.1 ca (by rw [k1]; decide)).1.trans k1
    have Ry := RC_nW fn R
    have kra : zK z ra ≠ 0 := by rw [Sp.2.2.2.2.1]; decide
    have kcc : zK z cc ≠ 0 := by rw [Sp.2.2.2.2.2.1]; decide
    have put : ∀ v k, ContC y0 I v k → k = (if th = 0 then f.2.1 else f.2.2.1) → F_X11_settled_64 (some q) (some q) (plS w 0 f.1.2.1 + 1) (plS w 1 f.1.2.2.1 + 1) v y0 (c - 2) (s - 324) P := fun v k hv hk' => by
      unfold F_X11_settled_64
      refine ⟨q, rfl, N0.2.2.2.2.1.1, ?_⟩
      by_cases kn : knowsP w f.1.2.1 f.1.2.2.1
      · have kn1 := kn.1
        have kn2 := kn.2
        have p1 := (plS_r kn1).1
        have p2 := (plS_c kn2).1
        refine NS_put N0 ⟨by omega, by omega⟩ ⟨by omega, by omega⟩ (fun g hg => (ContC_k hv g hg).1) (fun y NY fx => ?_)
        have nIx : ¬ I x := fun g => (r x g).1 N0.2.1
        have Ry' := RC_nW NY.2.2.2.1 R
        have fny := NY.2.2.2.1
        have hcell : ∀ a d, 0 ≤ a → a < w.1.1 → 0 ≤ d → d < w.1.2 → ContC y I (if a = plS w 0 f.1.2.1 + 1 - 1 ∧ d = plS w 1 f.1.2.2.1 + 1 - 1 then v else zO z xa (a * w.1.2 + d)) (if a = plS w 0 f.1.2.1 ∧ d = plS w 1 f.1.2.2.1 then k else w.2.2.2 a d) := fun a d a0 a1 d0 d1 => by
          rw [Int.add_sub_cancel, Int.add_sub_cancel]
          by_cases qq : a = plS w 0 f.1.2.1 ∧ d = plS w 1 f.1.2.2.1
          · rw [if_pos qq, if_pos qq]
            exact ContC_fr fx (fun t _ ht g => nIx (g ▸ ht)) hv
          · rw [if_neg qq, if_neg qq]; exact ContC_nw fny (g6 a d a0 a1 d0 d1)
        obtain ⟨sq, RJ⟩ := NS_fix (s := updS w (plS w 0 f.1.2.1) (plS w 1 f.1.2.2.1) k) cw Ry' NY i1 i2 (fun k a d => by rw [(fny.2 ra k kra (fun w => w)).1]; exact g4 k a d) (fun k a d => by rw [(fny.2 cc k kcc (fun w => w)).1]; exact g5 k a d) hcell
        refine h q y _ (GrI_1 NY.2.1) fny ⟨NY.1, NY.2.2.2.2.2.1⟩ ?_ RJ
        unfold chS
        rw [if_pos e3', if_pos kn, ← hk']; exact sq
      · refine k_put N0.2.2.2.2.1 (fun g hg => (ContC_k hv g hg).1) ?_
        rw [if_neg (fun g => kn ⟨by have := g.1.1; omega, by have := g.2.1; omega⟩)]
        obtain ⟨sq, RJ⟩ := NS_fix (s := w) cw Ry N0 i1 i2 (fun k a d => by rw [(fn.2 ra k kra (fun w => w)).1]; exact g4 k a d) (fun k a d => by rw [(fn.2 cc k kcc (fun w => w)).1]; exact g5 k a d) (fun a d a0 a1 d0 d1 => ContC_nw fn (g6 a d a0 a1 d0 d1))
        refine h q y0 _ (GrI_1 N0.2.1) fn ⟨N0.1, N0.2.2.2.2.2.1⟩ ?_ RJ
        unfold chS
        rw [if_pos e3', if_neg kn]; exact sq
    have o4 : zO y0 ca 4 = zO z ca 4 := (fn.2 ca 4 (by rw [k1]; decide) (fun w => w)).2.2
    have o5 : zO y0 ca 5 = zO z ca 5 := (fn.2 ca 5 (by rw [k1]; decide) (fun w => w)).2.2
    by_cases et : th = 0
    · rw [if_pos et]
      refine ⟨ca, rfl, kca, ?_⟩
      rw [o4]
      exact put _ _ (ContC_nw fn c4) (by rw [if_pos et])
    · rw [if_neg et]
      refine ⟨ca, rfl, kca, ?_⟩
      rw [o5]
      exact put _ _ (ContC_nw fn c5) (by rw [if_neg et])
  · rw [if_neg e3']
    have main : ∀ ax at_, ax = f.1.1 - 1 → at_ = plS w ax (if f.1.1 = 1 then f.1.2.1 else f.1.2.2.1) + 1 → F_X11_settled_99 (b 0) (some ca) th ax at_ z c s P := fun ax at_ hax hat => by
      have hax' : ax = 0 ∨ ax = 1 := by omega
      unfold F_X11_settled_99
      refine ⟨cK cw 0 rfl rfl, wa, hwa, ShC_7 sw, o_lineS hax' sw (fun la ⟨l1, l2, l3⟩ ila => ⟨ca, rfl, k1, ?_⟩)⟩
      rw [e3]
      have lb := lnS_b bw ax
      have mb := mst_32 ax
      have pb := plS_b w ax (if f.1.1 = 1 then f.1.2.1 else f.1.2.2.1)
      have tw163 : chS w f th = w → F_X11_settled_163 (b 0) z c s P := fun e => by
        unfold F_X11_settled_163 F_X11_settled_170
        exact ⟨cK cw 0 rfl rfl, wa, hwa, ShC_7 sw, 2, 324, by omega, by omega, twin e 2 324 (Nat.le_refl _) (Nat.le_refl _)⟩
      by_cases eg : th = f.1.2.2.2
      · rw [if_pos eg]
        unfold F_X11_settled_125
        rw [if_neg (by decide)]
        by_cases ea : at_ ≤ 0
        · rw [if_pos ea]
          refine tw163 ?_
          unfold chS; rw [if_neg e3', if_neg (fun g => by have := g.2.1; rw [← hax] at this; omega)]
        · rw [if_neg ea]
          refine ⟨la, rfl, l1, ?_⟩
          rw [l2]
          by_cases el : lnS w ax ≤ 1
          · rw [if_pos el]
            refine tw163 ?_
            unfold chS; rw [if_neg e3', if_neg (fun g => by have := g.2.2; rw [← hax] at this; omega)]
          · rw [if_neg el]
            refine ⟨cK cw 0 rfl rfl, 1, 64, by omega, by omega, k_without l1 l2 (by omega) (by omega) (by omega) (by omega) (by omega) (by omega) (fun a y1 ha fn ka na hia => ?_)⟩
            have R2 := RC_nW fn R
            have e11 : zO y1 (b 0) 11 = zO z (b 0) 11 := (fn.2 (b 0) 11 (by rw [cK cw 0 rfl rfl]; decide) (fun w => w)).2.2
            have sw2 : ShC y1 I wa w := ShC_nw fn sw
            refine ⟨wa, hwa, ShC_7 sw2, 2, 324, by omega, by omega, ?_⟩
            refine o_shape (ids := wotF (idS w ax) at_) R2 sw2 hax' ka (newNb cw ha) na (by omega) (by omega) (fun k k0 k1' => ?_) (by omega) (by omega) (fun q y J iJ fy zq sq q3 RJ => ?_)
            · rw [hia k k0 k1']
              unfold wotF
              by_cases c2 : k < at_ - 1
              · rw [if_pos c2, if_pos c2]; exact l3 k k0 (by omega)
              · rw [if_neg c2, if_neg c2]; exact l3 (k + 1) (by omega) (by omega)
            · unfold F_X11_settled_170
              refine h q y J (GrI_L fn iJ ha) (FrZ_tr fn fy) ⟨zK_of fn zq, q3⟩ ?_ RJ
              unfold chS
              rw [if_neg e3', ← hax, if_pos ⟨eg, by omega, by omega⟩, ← hat]; exact sq
      · rw [if_neg eg]
        unfold F_X11_settled_125
        rw [if_pos rfl]
        refine tw163 ?_
        unfold chS; rw [if_neg e3', if_neg (fun g => eg g.1)]
    unfold F_X11_settled_83
    by_cases e1' : f.1.1 = 1
    · rw [if_pos e1']
      refine ⟨ca, rfl, k1, ?_⟩
      rw [e0, if_pos e1']
      exact main 0 _ (by omega) (by rw [if_pos e1'])
    · rw [if_neg e1']
      refine ⟨ca, rfl, k1, ?_⟩
      rw [e0, if_neg e1']
      exact main 1 _ (by omega) (by rw [if_neg e1'])
theorem o_choose {z : Z} {b : Nat → Nat} {I : Nat → Prop} {S : SS} {i th : Int} {c s : Nat} {P : Int → Z → Prop} {X : Nat → Z → Prop} (R : RC z b I S) (kd : KdP S) (hc : 3 ≤ c) (hs : 388 ≤ s) (hx1 : (pChoose i th S).1 = 1 → X 0 z) (h : (pChoose i th S).1 = 0 → ∀ y J, GrI z I J → (∃ ca, zK z ca = 1 ∧ FrZ (WL z b wSt (wkT z b) (fun a => a = ca)) z y) → RC y b J (pChoose i th S).2.2 → WkN z y b → P (pChoose i th S).2.1 y) : F_X11_choose (b 0) i th z c s P X := by
  obtain ⟨cw, r, ht, hl, hb, hk, hq⟩ := id R
  unfold F_X11_choose
  unfold pChoose at hx1 h
  refine ⟨cK cw 0 rfl rfl, b 5, cO cw 0 4 5 (by decide), cK cw 5 rfl rfl, o_at3 cw hq ?_⟩
  by_cases e : 0 ≤ i ∧ i < S.2.2.2.2.1
  rotate_left
  · rw [if_neg e, if_pos rfl]
    rw [if_neg e] at hx1; exact ⟨by omega, by omega, hx1 rfl⟩
  rw [if_pos e]
  rw [if_pos e] at h
  have hcf := hq.1.2.1 i e.1 e.2
  obtain ⟨ca, h0, k1, -⟩ := id hcf
  rw [h0, if_neg (by simp)]
  refine ⟨ca, rfl, k1, ?_⟩
  rintro _ rfl
  obtain ⟨R1, f1⟩ := RC_set R e h0 k1
  have hcf1 := R1.2.2.2.2.2.2.1.2.1 i e.1 e.2
  have o30 : zO (wI z ca 6 1) (b 30) i = some ca := h0
  have o11 : zO (wI z ca 6 1) (b 0) 11 = zO z (b 0) 11 := rfl
  have kz : ∀ a, zK (wI z ca 6 1) a = zK z a := fun a => rfl
  rw [o30] at hcf1
  generalize wI z ca 6 1 = z1 at R1 f1 hcf1 o30 o11 kz
  have kdi := kd i e.1 e.2
  refine ⟨3, 388, by omega, by omega, o_settled R1 hcf1 (by show 1 ≤ (if i = i then _ else _ : Cf).1.1 ∧ (if i = i then _ else _ : Cf).1.1 ≤ 3; rw [if_pos rfl]; exact kdi) (Nat.le_refl _) (Nat.le_refl _) (fun q y J iJ fn zq sq Ry => ?_)⟩
  refine ⟨cK Ry.1 0 rfl rfl, o_step Ry sq (fun x fx ex Rx => ?_)⟩
  refine ⟨cK Rx.1 0 rfl rfl, b 5, cO Rx.1 0 4 5 (by decide), cK Rx.1 5 rfl rfl, o_unsettled Rx ?_⟩
  have ech : chS (setS S i).2.2.2.1.1 ((setS S i).2.2.2.2.2.1 i) th = chS S.2.2.2.1.1 (S.2.2.2.2.2.1 i) th := by
    show chS S.2.2.2.1.1 (if i = i then ((S.2.2.2.2.2.1 i).1, (S.2.2.2.2.2.1 i).2.1, (S.2.2.2.2.2.1 i).2.2.1, 1) else S.2.2.2.2.2.1 i) th = _
    rw [if_pos rfl]; rfl
  rw [ech] at Rx ⊢
  have eu : pUns (setW (pStep0 (setS S i)) (chS S.2.2.2.1.1 (S.2.2.2.2.2.1 i) th)) = pUns (setS S i) := rfl
  rw [eu]
  have ey : zO y (b 0) 11 = zO z (b 0) 11 := ((fn.2 (b 0) 11 (by rw [cK R1.1 0 rfl rfl]; decide) (fun w => w)).2.2).trans o11
  refine h rfl x J (GrI_pre f1 iJ) ⟨ca, k1, ?_⟩ Rx (WkN_pre cw f1 (by decide) (WkN_nw R1.1 fn zq.1 zq.2 Ry.1 (ShC_7 sq) fx ex))
  refine FrZ_wl (y := z1) (FrZ_mono f1 (fun a j ha k => ?_)) (FrZ_wl (y := y) (FrZ_mono fn (fun _ _ _ k => k.elim)) (FrZ_mono fx (fun a j ha k => ?_)))
  · rcases k with ⟨t, t1, t2⟩ | k | k
    · cases t1
    · exact absurd k.1 id
    · exact Or.inr (Or.inr k)
  · rcases k with k | k | k
    · exact Or.inl k
    · exact Or.inr (Or.inl ⟨by show zO z (b 0) 11 = some a; rw [← ey]; exact k.1, k.2⟩)
    · exact absurd k.1 id
