/-! ===== sort: the pure call, and the system's ===== -/
noncomputable def soF (col fr to t : Int) (S : SS) : Int → Int := srtF (fun a c => aheP t (vvS (-1) S (fr - 1 + a) (col - 1)) (vvS (-1) S (fr - 1 + c) (col - 1))) (to - fr + 1).toNat (fun _ => 0)
/-- rows fr - 1 to fr - 1 + n - 1 (from 0 on) are put by q -/
def soI (w : Sh) (fr n : Int) (q : Int → Int) : Int → Int := fun i => if fr - 1 ≤ i ∧ i < fr - 1 + n then idS w 0 (fr - 1 + q (i - (fr - 1))) else idS w 0 i
/-- how many places of the first k are elsewhere -/
def elC (q : Int → Int) : Nat → Int
  | 0 => 0
  | k + 1 => elC q k + (if q k = k then 0 else 1)
noncomputable def pSort (col fr to t : Int) (S : SS) : Nat × Int × SS := if ((1 ≤ fr ∧ fr ≤ S.2.2.2.1.1.1.1) ∧ 1 ≤ col ∧ col ≤ S.2.2.2.1.1.1.2) ∧ (1 ≤ to ∧ to ≤ S.2.2.2.1.1.1.1) then (if fr ≤ to then (0, elC (soF col fr to t S) (to - fr + 1).toNat, setW (pStep0 S) (shA S.2.2.2.1.1 0 S.2.2.2.1.1.1.1 (soI S.2.2.2.1.1 fr (to - fr + 1) (soF col fr to t S)))) else (2, 0, S)) else (1, 0, S)
theorem elC_b (q : Int → Int) : ∀ k : Nat, 0 ≤ elC q k ∧ elC q k ≤ (k : Int)
  | 0 => ⟨Int.le_refl _, Int.le_refl _⟩
  | k + 1 => by
    have := elC_b q k
    rw [elC]
    split <;> omega
theorem soF_b {col fr to t : Int} {S : SS} {j : Int} (j0 : 0 ≤ j) (j1 : j < to - fr + 1) : 0 ≤ soF col fr to t S j ∧ soF col fr to t S j < to - fr + 1 := by
  unfold soF
  exact srtF_b (n := to - fr + 1) _ (by omega) j j0 (by omega)
theorem FrZ_cl {W : Nat → Int → Prop} {z y : Z} {q a : Nat} (f : FrZ W z y) (hq : zK y q = 0) : FrZ W z (clZ y q a) := by
  have ne : ∀ b, zK z b ≠ 0 → b ≠ q := fun b hb e => by rw [← (f.1 b hb).1, e] at hb; exact hb hq
  refine ⟨fun b hb => ?_, fun b j hb hn => ?_⟩
  · show (if b = q then 15 else zK y b) = zK z b ∧ (if b = q then zN y a else zN y b) = zN z b
    rw [if_neg (ne b hb), if_neg (ne b hb)]; exact f.1 b hb
  · show (if b = q then zI y a j else zI y b j) = zI z b j ∧ (if b = q then 0 else zG y b j) = zG z b j ∧ (if b = q then none else zO y b j) = zO z b j
    rw [if_neg (ne b hb), if_neg (ne b hb), if_neg (ne b hb)]; exact f.2 b j hb hn
section Cs3
variable {z : Z} {b sv sb : Nat → Nat} {I : Nat → Prop} {S : SS}
theorem o_places {col fr to t : Int} {c s : Nat} {P : Option Nat → Z → Prop} (R : RC z b I S) (C : Cac z b I sv sb S) (A : ShA S) (Vd : Vld z b (-1)) (ht : t = 0 ∨ t = 1) (f1 : 1 ≤ fr) (f2 : fr ≤ to) (f3 : to ≤ S.2.2.2.1.1.1.1) (c1 : 1 ≤ col) (c2 : col ≤ S.2.2.2.1.1.1.2) (hc : 1 ≤ c) (hs : 32 ≤ s) (p : ∀ y pa, FrZ nW z y → zK y pa = 15 → zN y pa = to - fr + 1 → (∀ j, 0 ≤ j → j < to - fr + 1 → zI y pa j = fr + soF col fr to t S j) → P (some pa) y) : F_X11_placesInOrder (b 0) col fr to t z c s P := by
  have hB := (RC_Bd R).2.2.2.1.1
  have h1 := hB.1.2
  unfold F_X11_placesInOrder
  rw [w32e (x := to - fr) (by omega) (by omega), w32e (x := to - fr + 1) (by omega) (by omega), show max (to - fr + 1) 0 = to - fr + 1 by omega]
  refine ⟨by omega, by omega, hc, by omega, fun pa hp => ?_⟩
  rintro _ rfl
  exact o_p16 (q := fun _ => 0) R C A Vd (FrZ_nZ FrZ_rf hp) hp (by rw [zK_nZ, if_pos rfl]) (by rw [zN_nZ, if_pos rfl]) ht f1 (by omega) c1 c2 ⟨by omega, by omega⟩ (by omega) (fun y fy ky ny hy => p y pa fy ky ny (fun j j0 j1 => hy j j0 j1))
theorem o_s82 {zc : Z} {pa cl : Nat} {fr n : Int} {q : Int → Int} {c s : Nat} {P : Int → Z → Prop} {X : Nat → Z → Prop} (R : RC z b I S) (kp : zK z pa = 15) (np : zN z pa = n) (f1 : 1 ≤ fr) (n0 : 0 ≤ n) (f2 : fr + n - 1 ≤ S.2.2.2.1.1.1.1) (hp : ∀ j, 0 ≤ j → j < n → zI z pa j = fr + q j ∧ 0 ≤ q j ∧ q j < n) (kc : zK z cl = 0) (fc : FrZ nW z zc) (kc2 : zK zc cl = 15) (nc2 : zN zc cl = S.2.2.2.1.1.1.1) (ic2 : ∀ i, 0 ≤ i → i < S.2.2.2.1.1.1.1 → zI zc cl i = idS S.2.2.2.1.1 0 i + 1) (hc : 2 ≤ c) (hs : 324 ≤ s) (p : ∀ y J, GrI z I J → FrZ (WL z b wSt (wkT z b) no1) z y → RC y b J (setW (pStep0 S) (shA S.2.2.2.1.1 0 S.2.2.2.1.1.1.1 (soI S.2.2.2.1.1 fr n q))) → WkN z y b → P (elC q n.toNat) y) : F_X11_sort_82 (b 0) fr (some pa) (some cl) 0 0 zc c s P X := by
  obtain ⟨cw, r, ht, hl, hb, hk, hq⟩ := id R
  obtain ⟨wa, hw, sw⟩ := hk.1
  obtain ⟨ra, ca, xa, Sp, i1, i2, i3, g4, g5, g6⟩ := id sw
  obtain ⟨s1, s2, s3, s4, s5, s6, s7, s8, s9, s10, s11, s12⟩ := id Sp
  have npc : pa ≠ cl := fun e => by rw [e, kc] at kp; cases kp
  have nrc : ra ≠ cl := fun e => by rw [e, kc] at s5; cases s5
  unfold F_X11_sort_82
  refine lp_I (fun o => ∃ (k : Nat) (w : Z), o = (elC q k, (k : Int), w) ∧ (k : Int) ≤ n ∧ FrZ nW z w ∧ zK w cl = 15 ∧ zN w cl = S.2.2.2.1.1.1.1 ∧ ∀ i, 0 ≤ i → i < S.2.2.2.1.1.1.1 → zI w cl i = soI S.2.2.2.1.1 fr k q i + 1) (fun o => (n - o.2.1).toNat) ?_ (0, 0, zc) ⟨0, zc, rfl, n0, fc, kc2, nc2, fun i i0 i1 => ?_⟩
  rotate_left
  · rw [ic2 i i0 i1]
    unfold soI
    rw [if_neg (by omega)]
  rintro G _ ⟨k, w, rfl, kn, fw, kw, nw, hw2⟩ ih
  have Rw := RC_nW fw R
  have kpw : zK w pa = 15 := (fw.1 pa (by rw [kp]; decide)).1.trans kp
  have npw : zN w pa = n := (fw.1 pa (by rw [kp]; decide)).2.trans np
  have e11 : zO w (b 0) 11 = some wa := ((fw.2 (b 0) 11 (by rw [cK cw 0 rfl rfl]; decide) (fun w => w)).2.2).trans hw
  have sww : ShC w I wa S.2.2.2.1.1 := ShC_fr fw (fun _ _ _ w => w) (fun _ _ _ w => w.elim) sw
  show L_X11_sort_82 (b 0) fr (some pa) (some cl) (elC q k) (k : Int) w c s _
  unfold L_X11_sort_82 F_X11_sort_133
  refine ⟨pa, rfl, kpw, ?_⟩
  rw [npw]
  by_cases cn : n ≤ (k : Int)
  · rw [if_pos cn]
    have ek : (k : Int) = n := by omega
    have en : n.toNat = k := by omega
    show zK w (b 0) = 12 ∧ _
    refine ⟨cK Rw.1 0 rfl rfl, wa, e11, ShC_7 sww, c, s, Nat.le_refl _, Nat.le_refl _, ?_⟩
    rw [ek] at hw2
    refine o_shape (n := S.2.2.2.1.1.1.1) (ids := soI S.2.2.2.1.1 fr n q) Rw sww (Or.inl rfl) kw (newNb cw kc) nw s11.1 (by show S.2.2.2.1.1.1.1 ≤ 32; exact s11.2) hw2 hc hs (fun q' y J iJ fy zq sq q3 RJ => ?_)
    refine ⟨cK RJ.1 0 rfl rfl, o_step RJ sq (fun v fv ev Rv => ?_)⟩
    rw [en] at p
    refine p v J (GrI_L fw iJ kc) ?_ Rv (WkN_pre (L := []) (T := no1) (C := no1) cw (FrZ_mono fw (fun _ _ _ w => w.elim)) rfl (WkN_nw Rw.1 fy zq q3 RJ.1 (ShC_7 sq) fv ev))
    refine FrZ_add (T := no1) (y := y) (L := []) (L' := wSt) ?_ fv ?_ (by decide) (by decide)
    · exact FrZ_wl (y := w) (FrZ_mono fw (fun _ _ _ w => w.elim)) (FrZ_mono fy (fun _ _ _ w => w.elim))
    · rw [(fy.2 (b 0) 11 (by rw [cK Rw.1 0 rfl rfl]; decide) (fun w => w)).2.2, e11, hw]
  rw [if_neg cn]
  obtain ⟨p1, p2, p3⟩ := hp k (by omega) (by omega)
  have epw : zI w pa (k : Int) = fr + q k := ((fw.2 pa k (by rw [kp]; decide) (fun w => w)).1).trans p1
  have era : zO w wa 0 = some ra := ((fw.2 wa 0 (by rw [s1]; decide) (fun w => w)).2.2).trans s2
  have kra : zK w ra = 15 := (fw.1 ra (by rw [s5]; decide)).1.trans s5
  have nra : zN w ra = S.2.2.2.1.1.1.1 := (fw.1 ra (by rw [s5]; decide)).2.trans s8
  have ira : zI w ra (fr - 1 + q k) = idS S.2.2.2.1.1 0 (fr - 1 + q k) + 1 := ((fw.2 ra _ (by rw [s5]; decide) (fun w => w)).1).trans (g4 _ (by omega) (by omega))
  refine ⟨cK Rw.1 0 rfl rfl, wa, e11, ShC_7 sww, by omega, by omega, ra, era, kra, ?_⟩
  rw [epw, w32e (x := fr + q k - 1) (by omega) (by omega), w32e (x := fr - 1) (by omega) (by omega), w32e (x := fr - 1 + (k : Int)) (by omega) (by omega), show fr + q k - 1 = fr - 1 + q k by omega, nra]
  refine ⟨by omega, by omega, cl, rfl, kw, by omega, by omega, ?_⟩
  rw [ira]
  intro v hv
  have fv : FrZ nW z v := by rw [hv]; exact FrZ_wI fw (Or.inr kc)
  have kpv : zK v pa = 15 := (fv.1 pa (by rw [kp]; decide)).1.trans kp
  have npv : zN v pa = n := (fv.1 pa (by rw [kp]; decide)).2.trans np
  have epv : zI v pa (k : Int) = fr + q k := ((fv.2 pa k (by rw [kp]; decide) (fun w => w)).1).trans p1
  refine ⟨pa, rfl, kpv, by omega, by omega, ?_⟩
  rw [epv, w32e (x := fr + (k : Int)) (by omega) (by omega), w32e (x := (k : Int) + 1) (by omega) (by omega)]
  have eb := elC_b q k
  have nx : ∀ x, x = elC q (k + 1) → G (x, (k : Int) + 1, v) := fun x hx => by
    refine ih (x, (k : Int) + 1, v) ⟨k + 1, v, by rw [hx]; rfl, by omega, fv, by rw [hv]; exact kw, by rw [hv]; exact nw, fun i i0 i1 => ?_⟩ (by show (n - ((k : Int) + 1)).toNat < (n - (k : Int)).toNat; omega)
    rw [hv, zI_wI]
    by_cases ci : i = fr - 1 + (k : Int)
    · rw [if_pos ⟨rfl, ci⟩]
      unfold soI
      rw [if_pos (by omega), show i - (fr - 1) = (k : Int) by omega]
    · rw [if_neg (fun o => ci o.2), hw2 i i0 i1]
      unfold soI
      by_cases c3 : fr - 1 ≤ i ∧ i < fr - 1 + (k : Int)
      · rw [if_pos c3, if_pos (by omega)]
      · rw [if_neg c3, if_neg (by omega)]
  by_cases cq : fr + q k = fr + (k : Int)
  · rw [if_pos cq, w32e (x := elC q k + 0) (by omega) (by omega)]
    exact nx _ (by rw [elC, if_pos (by omega)])
  · rw [if_neg cq, w32e (x := elC q k + 1) (by omega) (by omega)]
    exact nx _ (by rw [elC, if_neg (by omega)])
theorem o_sort {col fr to t : Int} {N c0 s0 : Nat} {P : Int → Z → Prop} {X : Nat → Z → Prop} (hN : (N : Int) = S.2.1.1) (R : RC z b I S) (C : Cac z b I sv sb S) (A : ShA S) (ht : t = 0 ∨ t = 1) (hc : (pSort col fr to t S).1 = 0 → ¬ Vld z b (-1) → 641 * coN z b S (shOf (-1) S) N + 645 ≤ c0) (hs : (pSort col fr to t S).1 = 0 → ¬ Vld z b (-1) → 9280 * coN z b S (shOf (-1) S) N + 9668 ≤ s0) (hc4 : 4 ≤ c0) (hs4 : 388 ≤ s0) (hx1 : (pSort col fr to t S).1 = 1 → X 0 z) (hx2 : (pSort col fr to t S).1 = 2 → X 1 z) (h : (pSort col fr to t S).1 = 0 → ∀ y0 I0, (∀ a, I a → I0 a) → RC y0 b I0 S → Cac y0 b I0 sv sb S → CnV z y0 b S (-1) True → ∀ y J, GrI y0 I0 J → FrZ (WL y0 b wSt (wkT y0 b) no1) y0 y → RC y b J (pSort col fr to t S).2.2 → WkN y0 y b → P (pSort col fr to t S).2.1 y) : F_X11_sort (b 0) col fr to t z c0 s0 P X := by
  obtain ⟨cw, r, hT, hl, hb, hk, hq⟩ := id R
  obtain ⟨wa, hw, sw⟩ := hk.1
  obtain ⟨ra, ca, xa, Sp, -⟩ := id sw
  have isw : isShP (-1) S := ⟨by omega, by have := (RC_Bd R).2.1.1.1; omega⟩
  unfold F_X11_sort F_X11_sort_24
  unfold pSort at hx1 hx2 h hc hs
  refine ⟨cK cw 0 rfl rfl, wa, hw, ShC_7 sw, k_has Sp ?_⟩
  by_cases e1 : (1 ≤ fr ∧ fr ≤ S.2.2.2.1.1.1.1) ∧ 1 ≤ col ∧ col ≤ S.2.2.2.1.1.1.2
  rotate_left
  · rw [tb, if_neg e1, if_pos rfl]
    rw [if_neg (fun g => e1 g.1)] at hx1
    exact ⟨by omega, by omega, hx1 rfl⟩
  rw [tb, if_pos e1, if_neg (by decide)]
  refine k_has Sp ?_
  by_cases e2 : 1 ≤ to ∧ to ≤ S.2.2.2.1.1.1.1
  rotate_left
  · rw [show tb ((1 ≤ to ∧ to ≤ S.2.2.2.1.1.1.1) ∧ 1 ≤ col ∧ col ≤ S.2.2.2.1.1.1.2) = 0 by rw [tb, if_neg (fun g => e2 g.1)], if_pos rfl]
    rw [if_neg (fun g => e2 g.2)] at hx1
    exact ⟨by omega, by omega, hx1 rfl⟩
  rw [show tb ((1 ≤ to ∧ to ≤ S.2.2.2.1.1.1.1) ∧ 1 ≤ col ∧ col ≤ S.2.2.2.1.1.1.2) = 1 by rw [tb, if_pos ⟨e2, e1.2⟩], if_neg (by decide)]
  rw [if_pos ⟨e1, e2⟩] at hx2 h hc hs
  by_cases e3 : fr ≤ to
  rotate_left
  · rw [if_neg e3]
    rw [if_neg e3] at hx2
    exact ⟨by omega, by omega, hx2 rfl⟩
  rw [if_pos e3]
  rw [if_pos e3] at h hc hs
  have rest : ∀ y0 I0, (∀ a, I a → I0 a) → RC y0 b I0 S → Cac y0 b I0 sv sb S → Vld y0 b (-1) → CnV z y0 b S (-1) True → (zK y0 (b 0) = 12 ∧ (∃ c_56 s_56, c_56 ≤ c0 - (c0 - 4) ∧ s_56 ≤ s0 - (s0 - 388) ∧ F_X11_placesInOrder (b 0) col fr to t y0 c_56 s_56 (fun x_56 z_56 => (zK z_56 (b 0) = 12 ∧ (∃ a_65, zO z_56 (b 0) 11 = some a_65 ∧ zK z_56 a_65 = 7 ∧ (∃ a_68, zO z_56 a_65 0 = some a_68 ∧ zK z_56 a_68 = 15 ∧ (1 ≤ (c0 - (c0 - 4)) - c_56 ∧ Int.toNat (zN z_56 a_68) ≤ (s0 - (s0 - 388)) - s_56 ∧ ∀ b_68, zK z_56 b_68 = 0 → (∀ z_68, z_68 = clZ z_56 b_68 a_68 → F_X11_sort_82 (b 0) fr x_56 (some b_68) 0 0 z_68 (((c0 - (c0 - 4)) - c_56) - 1) (((s0 - (s0 - 388)) - s_56) - Int.toNat (zN z_56 a_68)) P X)))))))) := by
    intro y0 I0 iI R0 C0 V0 cn
    refine ⟨cK R0.1 0 rfl rfl, 1, 32, by omega, by omega, o_places R0 C0 A V0 ht e1.1.1 e3 e2.2 e1.2.1 e1.2.2 (Nat.le_refl _) (Nat.le_refl _) (fun y pa fy ky ny hy => ?_)⟩
    have Ry := RC_nW fy R0
    obtain ⟨wa2, hw2, sw2⟩ := Ry.2.2.2.2.2.1.1
    obtain ⟨ra2, ca2, xa2, Sp2, -, -, -, g4, -, -⟩ := id sw2
    obtain ⟨s1, s2, s3, s4, s5, s6, s7, s8, s9, s10, s11, s12⟩ := id Sp2
    refine ⟨cK Ry.1 0 rfl rfl, wa2, hw2, s1, ra2, s2, s5, by omega, by rw [s8]; omega, fun cl kc => ?_⟩
    rintro _ rfl
    rw [s8]
    refine o_s82 (z := y) (n := to - fr + 1) (q := soF col fr to t S) Ry ky ny e1.1.1 (by omega) (by omega) (fun j j0 j1 => ⟨hy j j0 j1, soF_b j0 j1⟩) kc (FrZ_cl FrZ_rf kc) zK_cl ?_ ?_ (by omega) (by omega) (fun v J iJ fv Rv wn => ?_)
    · show (if cl = cl then zN y ra2 else zN y cl) = _
      rw [if_pos rfl]; exact s8
    · intro i i0 i1
      show (if cl = cl then zI y ra2 i else zI y cl i) = _
      rw [if_pos rfl]; exact g4 i i0 i1
    · refine h rfl y0 I0 iI R0 C0 cn v J (GrI_pre fy iJ) ?_ Rv (WkN_pre (L := []) (T := no1) (C := no1) R0.1 (FrZ_mono fy (fun _ _ _ w => w.elim)) rfl wn)
      refine FrZ_add (T := no1) (y := y) (L := []) (L' := wSt) (FrZ_mono fy (fun _ _ _ w => w.elim)) fv ?_ (by decide) (by decide)
      exact (fy.2 (b 0) 11 (by rw [cK R0.1 0 rfl rfl]; decide) (fun w => w)).2.2
  refine ⟨c0 - 4, s0 - 388, by omega, by omega, o_ready hN R C A isw (fun nv => by have := hc rfl nv; omega) (fun nv => by have := hs rfl nv; omega) (fun vd => ?_) (fun y I' iI Ry Cy vy nv un => ?_)⟩
  · exact rest z I (fun _ g => g) R C vd (Or.inl ⟨rfl, fun _ => vd⟩)
  · exact rest y I' iI Ry Cy vy (Or.inr ⟨nv, un⟩)
end Cs3
