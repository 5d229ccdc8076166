/-! ===== a new Sheet that is still being filled; erase ===== -/
theorem ix_inj {r c r' c' nc : Int} (c0 : 0 ≤ c) (c1 : c < nc) (d0 : 0 ≤ c') (d1 : c' < nc) (h : r * nc + c = r' * nc + c') : r = r' ∧ c = c' := by
  have key : ∀ p p' : Int, p < p' → p * nc + nc ≤ p' * nc := fun p p' hp => by
    have q := Int.mul_le_mul_of_nonneg_right (show p + 1 ≤ p' by omega) (show 0 ≤ nc by omega)
    rw [Int.add_mul, Int.one_mul] at q; exact q
  have e : r = r' := by
    by_cases a : r < r'
    · have := key r r' a; omega
    · by_cases a' : r' < r
      · have := key r' r a'; omega
      · omega
  subst e
  exact ⟨rfl, by omega⟩
/-- a Sheet q of y that z has not, with cells x, filled by F -/
def NS (z : Z) (q x ra ca : Nat) (nr nc : Int) (F : Int → Int → Option Nat) (y : Z) : Prop := zK z q = 0 ∧ zK z x = 0 ∧ q ≠ x ∧ FrZ nW z y ∧ Shp y q ra ca x nr nc ∧ zO y q 3 = none ∧ ∀ r c, 0 ≤ r → r < nr → 0 ≤ c → c < nc → zO y x (r * nc + c) = F r c
theorem NS_put {z : Z} {q x ra ca : Nat} {nr nc : Int} {F : Int → Int → Option Nat} {y : Z} {r c : Int} {v : Option Nat} {P : Z → Prop} (h : NS z q x ra ca nr nc F y) (hr : 1 ≤ r ∧ r ≤ nr) (hc : 1 ≤ c ∧ c ≤ nc) (hv : ∀ w, v = some w → zK y w = 2) (k : ∀ y', NS z q x ra ca nr nc (fun a d => if a = r - 1 ∧ d = c - 1 then v else F a d) y' → FrZ (fun a _ => a = x) y y' → P y') : F_X6_put q r c v y P := by
  obtain ⟨h1, h2, h3, h4, h5, h6, h7⟩ := h
  refine k_put h5 hv ?_
  rw [if_pos ⟨hr, hc⟩]
  have fy : FrZ (fun a _ => a = x) y (wO y x ((r - 1) * nc + (c - 1)) v) := FrZ_wO FrZ_rf (Or.inl rfl)
  refine k _ ⟨h1, h2, h3, FrZ_wO h4 (Or.inr h2), Shp_fr h5 fy (fun w => h3 w) (fun w => h3 w) (fun w => h3 w), by rw [zO_wO, if_neg (fun w => h3 w.1)]; exact h6, fun a d a0 a1 d0 d1 => ?_⟩ fy
  rw [zO_wO]
  dsimp only
  by_cases e : a = r - 1 ∧ d = c - 1
  · rw [if_pos e, if_pos ⟨rfl, by rw [e.1, e.2]⟩]
  · rw [if_neg e, if_neg (fun w => e (ix_inj d0 d1 (by omega) (by omega) w.2))]; exact h7 a d a0 a1 d0 d1
theorem NS_twin {z : Z} {I : Nat → Prop} {a : Nat} {s : Sh} {c sl : Nat} {P : Option Nat → Z → Prop} (h0 : ShC z I a s) (hc : 2 ≤ c) (hs : 324 ≤ sl) (h : ∀ q x ra ca xa y, (I ra ∧ I ca) ∧ Shp z a ra ca xa s.1.1 s.1.2 → (∀ k, 0 ≤ k → k < s.1.1 → zI z ra k = s.2.1 k + 1) → (∀ k, 0 ≤ k → k < s.1.2 → zI z ca k = s.2.2.1 k + 1) → (∀ r c, 0 ≤ r → r < s.1.1 → 0 ≤ c → c < s.1.2 → ContC z I (zO z xa (r * s.1.2 + c)) (s.2.2.2 r c)) → NS z q x ra ca s.1.1 s.1.2 (fun r c => zO z xa (r * s.1.2 + c)) y → P (some q) y) : F_X6_twin a z c sl P := by
  obtain ⟨ra, ca, xa, Sp, i1, i2, i3, g4, g5, g6⟩ := h0
  obtain ⟨s1, s2, s3, s4, s5, s6, s7, s8, s9, s10, s11, s12⟩ := id Sp
  have g3 := cnt s11 s12
  refine k_twin Sp (ShC_all s12.1 g6) hc (by omega) (fun q x y nw ex => ?_)
  obtain ⟨n1, n2, n3, n4, n5, n6, n7⟩ := nw
  refine h q x ra ca xa y ⟨⟨i1, i2⟩, Sp⟩ g4 g5 g6 ⟨n1, n2, n3, n4, n5, n6, fun r c r0 r1 c0 c1 => ?_⟩
  have q := rcix r0 r1 c0 c1
  exact ex _ q.1 q.2
theorem NS_fix {z y : Z} {b : Nat → Nat} {I : Nat → Prop} {S : SS} {q x ra ca : Nat} {F : Int → Int → Option Nat} {s : Sh} (c : CWz z b) (R : RC y b I S) (N : NS z q x ra ca s.1.1 s.1.2 F y) (i1 : I ra) (i2 : I ca) (h1 : ∀ k, 0 ≤ k → k < s.1.1 → zI y ra k = s.2.1 k + 1) (h2 : ∀ k, 0 ≤ k → k < s.1.2 → zI y ca k = s.2.2.1 k + 1) (h3 : ∀ r c, 0 ≤ r → r < s.1.1 → 0 ≤ c → c < s.1.2 → ContC y I (F r c) (s.2.2.2 r c)) : ShC y (fun a => I a ∨ a = x) q s ∧ RC y b (fun a => I a ∨ a = x) S := by
  obtain ⟨n1, n2, n3, n4, n5, n6, n7⟩ := N
  have iJ : ∀ a, I a → (fun a => I a ∨ a = x) a := fun a ha => Or.inl ha
  have hJ : Frz y b (fun a => I a ∨ a = x) := by
    rintro a (ha | rfl)
    · exact R.2.1 a ha
    · have kx : zK y a = 19 := n5.2.2.2.2.2.2.1
      refine ⟨by rw [kx]; decide, by rw [kx]; decide, by rw [kx]; decide, fun k hk e => ?_⟩
      exact (ckz_k k hk).2.2 (by rw [← (c.1 k hk).1, ← e]; exact n2)
  refine ⟨⟨ra, ca, x, n5, Or.inl i1, Or.inl i2, Or.inr rfl, h1, h2, fun r c r0 r1 c0 c1 => ?_⟩, RC_I iJ hJ R⟩
  rw [n7 r c r0 r1 c0 c1]; exact ContC_I iJ (h3 r c r0 r1 c0 c1)
/-- the reference: a cell of the working sheet -/
def updS (s : Sh) (r c : Int) (t : Cont) : Sh := (s.1, s.2.1, s.2.2.1, fun a d => if a = r ∧ d = c then t else s.2.2.2 a d)
theorem RM_cell {u : Mu} {N : Int} {S : SS} {r c x : Int} {t : Cont} (hB : Bd S) (R : RM u N S) (hr : 0 ≤ r ∧ r < 32) (hc : 0 ≤ c ∧ c < 10) (ht : ContM u x t) : RM (uI u 5 (12800 + 10 * r + c) x) N (setW S (updS S.2.2.2.1.1 r c t)) := by
  obtain ⟨⟨n1, n2⟩, h1, hl, hb, hk, hq⟩ := R
  have f : FrM [(5, none)] u (uI u 5 (12800 + 10 * r + c) x) := FrM_uI FrM_rf (wHas_a (by decide))
  have g := Grw_fr n1.1 f (by decide)
  have sl : ∀ s, s ≠ 40 → 0 ≤ s → SlM u (uI u 5 (12800 + 10 * r + c) x) s s := fun s hs h0 => by
    refine ⟨?_, ?_, fun k a b => ?_, fun k a b => ?_, fun k a b => ?_⟩ <;> rw [mI_uI, if_neg (by omega)]
  have e : ∀ i, mI (uI u 5 (12800 + 10 * r + c) x) 0 i = mI u 0 i := fun i => by rw [mI_uI, if_neg (by omega)]
  have hk' := hB.2.2.2.1
  refine ⟨⟨by rw [e]; exact n1, by rw [e]; exact n2⟩, RMt_fr f (by decide) h1, RMl_fr f (by decide) (fun k a c => (hB.2.1.2 k a c).1) g (fun k a c => (by have c' : k < S.2.1.1 := c; have := hB.2.1.1; exact sl k (by omega) a)) hl, RMb_fr f (by decide) hb, ?_, RMq_fr f (by decide) g hq⟩
  obtain ⟨k1, ⟨k2, k3, k4, k5⟩, k6, k7⟩ := hk
  refine ⟨?_, ⟨by rw [e]; exact k2, by rw [e]; exact k3, by rw [e]; exact ⟨k4, k5⟩⟩, fun k a c => by rw [e]; exact ShM_s (hk'.2.2.1 k a c) g (sl _ (by omega) (by omega)) (k6 k a c), fun k a c => ShM_s (hk'.2.2.2 k a c) g (sl _ (by omega) (by omega)) (k7 k a c)⟩
  obtain ⟨⟨m1, m2⟩, m3, m4, m5⟩ := k1
  obtain ⟨⟨b1, b2⟩, b3, b4⟩ := hk'.1
  refine ⟨⟨by rw [mI_uI, if_neg (by omega)]; exact m1, by rw [mI_uI, if_neg (by omega)]; exact m2⟩, fun k a c => by rw [mI_uI, if_neg (by omega)]; exact m3 k a c, fun k a c => by rw [mI_uI, if_neg (by omega)]; exact m4 k a c, fun a d a0 a1 d0 d1 => ?_⟩
  replace a1 : a < S.2.2.2.1.1.1.1 := a1
  replace d1 : d < S.2.2.2.1.1.1.2 := d1
  show ContM _ _ (if a = r ∧ d = c then t else S.2.2.2.1.1.2.2.2 a d)
  rw [mI_uI]
  by_cases ck : a = r ∧ d = c
  · rw [if_pos ck, if_pos ⟨rfl, by omega⟩]; exact ContM_g g ht
  · rw [if_neg ck, if_neg (by omega)]; exact ContM_g g (m5 a d a0 a1 d0 d1)
/-- sums -/
def sumN (g : Int → Int) : Nat → Int → Int
  | 0, _ => 0
  | m + 1, k => g k + sumN g m (k + 1)
theorem sumN_b {g : Int → Int} {B : Int} (hg : ∀ k, 0 ≤ g k ∧ g k ≤ B) : ∀ (m : Nat) (k : Int), 0 ≤ sumN g m k ∧ sumN g m k ≤ m * B
  | 0, _ => by unfold sumN; omega
  | m + 1, k => by
    have h1 := sumN_b hg m (k + 1)
    have h2 := hg k
    rw [sumN, show ((m + 1 : Nat) : Int) * B = m * B + B by rw [Int.natCast_succ, Int.add_mul, Int.one_mul]]
    omega
def isN (c : Cont) : Int := match c with
  | none => 0
  | some _ => 1
theorem isN_b (c : Cont) : 0 ≤ isN c ∧ isN c ≤ 1 := by
  cases c with
  | none => exact ⟨by show (0 : Int) ≤ 0; decide, by show (0 : Int) ≤ 1; decide⟩
  | some _ => exact ⟨by show (0 : Int) ≤ 1; decide, by show (1 : Int) ≤ 1; decide⟩
/-- rows r to r2, columns c to c2 (from 1 on) emptied -/
def ersS (s : Sh) (p : Int → Int → Bool) : Sh := (s.1, s.2.1, s.2.2.1, fun a d => if p (a + 1) (d + 1) = true then none else s.2.2.2 a d)
def rct (r c r2 c2 a d : Int) : Bool := decide ((r ≤ a ∧ a ≤ r2) ∧ c ≤ d ∧ d ≤ c2)
/-- what of it is done before row i, column j -/
def rcu (r c c2 i j a d : Int) : Bool := decide ((r ≤ a ∧ c ≤ d ∧ d ≤ c2) ∧ (a < i ∨ (a = i ∧ d < j)))
def hadS (s : Sh) (r c r2 c2 : Int) : Int := sumN (fun i => sumN (fun j => isN (s.2.2.2 (i - 1) (j - 1))) (c2 + 1 - c).toNat c) (r2 + 1 - r).toNat r
theorem ContC_0 {z : Z} {I : Nat → Prop} {r : Option Nat} {c : Cont} (h : ContC z I r c) : (r = none ∧ isN c = 0) ∨ (r ≠ none ∧ isN c = 1) := by
  match c, h with
  | none, h => exact Or.inl ⟨h, rfl⟩
  | some (k, l, ps), h =>
    obtain ⟨a, pa, h1, -⟩ := h
    exact Or.inr ⟨by rw [h1]; simp, rfl⟩
theorem rowS_b (s : Sh) (c c2 i : Int) : 0 ≤ sumN (fun j => isN (s.2.2.2 (i - 1) (j - 1))) (c2 + 1 - c).toNat c ∧ sumN (fun j => isN (s.2.2.2 (i - 1) (j - 1))) (c2 + 1 - c).toNat c ≤ ((c2 + 1 - c).toNat : Int) * 1 := sumN_b (fun k => isN_b _) _ _
abbrev hasS (s : Sh) (r c : Int) : Prop := (1 ≤ r ∧ r ≤ s.1.1) ∧ (1 ≤ c ∧ c ≤ s.1.2)
def pErase (r c r2 c2 : Int) (S : SS) : Nat × Int × SS := if hasS S.2.2.2.1.1 r c ∧ hasS S.2.2.2.1.1 r2 c2 then (if r ≤ r2 ∧ c ≤ c2 then (0, hadS S.2.2.2.1.1 r c r2 c2, setW (pStep0 S) (ersS S.2.2.2.1.1 (rct r c r2 c2))) else (2, 0, S)) else (1, 0, S)
theorem o_erase {z : Z} {b : Nat → Nat} {I : Nat → Prop} {S : SS} {r c r2 c2 : Int} {cc ss : Nat} {P : Int → Z → Prop} {X : Nat → Z → Prop} (R : RC z b I S) (hcc : 2 ≤ cc) (hss : 324 ≤ ss) (hx1 : (pErase r c r2 c2 S).1 = 1 → X 0 z) (hx2 : (pErase r c r2 c2 S).1 = 2 → X 1 z) (h : (pErase r c r2 c2 S).1 = 0 → ∀ y J, GrI z I J → FrZ (WL z b wSt (wkT z b) no1) z y → RC y b J (pErase r c r2 c2 S).2.2 → WkN z y b → P (pErase r c r2 c2 S).2.1 y) : F_X11_erase (b 0) r c r2 c2 z cc ss P X := by
  obtain ⟨cw, fr, ht, hl, hb, hk, hq⟩ := id R
  obtain ⟨wa, hw, sw⟩ := hk.1
  have k7 := ShC_7 sw
  have bw := ShC_b sw
  unfold F_X11_erase F_X11_erase_25 F_X11_erase_44
  unfold pErase at hx1 hx2 h
  refine ⟨cK cw 0 rfl rfl, wa, hw, k7, ?_⟩
  obtain ⟨ra0, ca0, xa0, Sp0, -⟩ := id sw
  refine k_has Sp0 ?_
  by_cases e1 : hasS S.2.2.2.1.1 r c
  · rw [show tb ((1 ≤ r ∧ r ≤ S.2.2.2.1.1.1.1) ∧ 1 ≤ c ∧ c ≤ S.2.2.2.1.1.1.2) = 1 by rw [tb, if_pos e1], if_neg (by decide)]
    refine k_has Sp0 ?_
    by_cases e2 : hasS S.2.2.2.1.1 r2 c2
    · rw [show tb ((1 ≤ r2 ∧ r2 ≤ S.2.2.2.1.1.1.1) ∧ 1 ≤ c2 ∧ c2 ≤ S.2.2.2.1.1.1.2) = 1 by rw [tb, if_pos e2], if_neg (by decide)]
      rw [if_pos ⟨e1, e2⟩] at hx1 hx2 h
      by_cases e3 : r2 < r
      · rw [if_pos e3]; rw [if_neg (by omega)] at hx2; exact ⟨by omega, by omega, hx2 rfl⟩
      · rw [if_neg e3]
        by_cases e4 : c ≤ c2
        · rw [if_pos e4]; rw [if_pos (by omega)] at h
          refine ⟨cc, ss, Nat.le_refl _, Nat.le_refl _, ?_⟩
          refine NS_twin sw hcc hss (fun q x ra ca xa y0 ⟨⟨i1, i2⟩, Sp⟩ g4 g5 g6 N0 => ?_)
          obtain ⟨⟨b1, b2⟩, b3, b4⟩ := bw
          obtain ⟨⟨r0, r1⟩, c0, c1⟩ := e1
          obtain ⟨⟨r20, r21⟩, c20, c21⟩ := e2
          have hadB : 0 ≤ hadS S.2.2.2.1.1 r c r2 c2 ∧ hadS S.2.2.2.1.1 r c r2 c2 ≤ ((r2 + 1 - r).toNat : Int) * 10 := by
            unfold hadS
            refine sumN_b (fun i => ?_) _ _
            have := rowS_b S.2.2.2.1.1 c c2 i
            exact ⟨this.1, by have := this.2; omega⟩
          unfold F_X11_erase_67
          refine lp_I (fun t => (r ≤ t.2.1 ∧ t.2.1 ≤ r2 + 1) ∧ 0 ≤ t.1 ∧ t.1 + sumN (fun i => sumN (fun j => isN (S.2.2.2.1.1.2.2.2 (i - 1) (j - 1))) (c2 + 1 - c).toNat c) (r2 + 1 - t.2.1).toNat t.2.1 = hadS S.2.2.2.1.1 r c r2 c2 ∧ NS z q x ra ca S.2.2.2.1.1.1.1 S.2.2.2.1.1.1.2 (fun a d => if rcu r c c2 t.2.1 c (a + 1) (d + 1) = true then none else zO z xa (a * S.2.2.2.1.1.1.2 + d)) t.2.2) (fun t => (r2 + 1 - t.2.1).toNat) ?_ (0, r, y0) ⟨⟨Int.le_refl _, by show r ≤ r2 + 1; omega⟩, by show (0 : Int) ≤ 0; decide, by show (0 : Int) + sumN _ (r2 + 1 - r).toNat r = _; unfold hadS; omega, ?_⟩
          · rintro G ⟨t6, t7, y⟩ ⟨⟨t70, t71⟩, t60, tS, NY⟩ ih
            simp only at t70 t71 t60 tS NY
            unfold L_X11_erase_67
            dsimp only
            have restB : 0 ≤ sumN (fun i => sumN (fun j => isN (S.2.2.2.1.1.2.2.2 (i - 1) (j - 1))) (c2 + 1 - c).toNat c) (r2 + 1 - t7).toNat t7 := (sumN_b (B := 10) (fun i => ⟨(rowS_b S.2.2.2.1.1 c c2 i).1, by have := (rowS_b S.2.2.2.1.1 c c2 i).2; omega⟩) _ _).1
            by_cases q1 : r2 < t7
            · rw [if_pos q1]
              have et : t7 = r2 + 1 := by omega
              subst et
              rw [show (r2 + 1 - (r2 + 1)).toNat = 0 by omega, sumN] at tS
              have Ry := RC_nW NY.2.2.2.1 R
              have fnw := NY.2.2.2.1
              have fW : FrZ (WL z b [] no1 no1) z y := FrZ_mono fnw (fun _ _ _ w => w.elim)
              have kra : zK z ra ≠ 0 := by rw [Sp.2.2.2.2.1]; decide
              have kca : zK z ca ≠ 0 := by rw [Sp.2.2.2.2.2.1]; decide
              obtain ⟨sq, RJ⟩ := NS_fix (s := ersS S.2.2.2.1.1 (rct r c r2 c2)) cw Ry NY i1 i2 (fun k a d => by rw [(fnw.2 ra k kra (fun w => w)).1]; exact g4 k a d) (fun k a d => by rw [(fnw.2 ca k kca (fun w => w)).1]; exact g5 k a d) (fun a d a0 a1 d0 d1 => by
                show ContC y I _ (if rct r c r2 c2 (a + 1) (d + 1) = true then none else S.2.2.2.1.1.2.2.2 a d)
                have eq : rcu r c c2 (r2 + 1) c (a + 1) (d + 1) = rct r c r2 c2 (a + 1) (d + 1) := by unfold rcu rct; exact decide_eq_decide.mpr (by omega)
                rw [eq]
                by_cases qq : rct r c r2 c2 (a + 1) (d + 1) = true
                · rw [if_pos qq, if_pos qq]; exact rfl
                · rw [if_neg qq, if_neg qq]; exact ContC_fr fW (WL_I fr) (g6 a d a0 a1 d0 d1))
              refine ⟨cK Ry.1 0 rfl rfl, o_step RJ sq (fun w fw ew Rw => ?_)⟩
              rw [show t6 = hadS S.2.2.2.1.1 r c r2 c2 by omega]
              have ey11 : zO y (b 0) 11 = zO z (b 0) 11 := (fnw.2 (b 0) 11 (by rw [cK cw 0 rfl rfl]; decide) (fun w => w)).2.2
              refine h rfl w _ (GrI_1 NY.2.1) ?_ Rw (WkN_nw cw fnw NY.1 NY.2.2.2.2.2.1 RJ.1 (ShC_7 sq) fw ew)
              refine FrZ_wl (y := y) (FrZ_mono fnw (fun _ _ _ w => w.elim)) (FrZ_mono fw (fun a i ha w => ?_))
              rcases w with w | w | w
              · exact Or.inl w
              · exact Or.inr (Or.inl ⟨by show zO z (b 0) 11 = some a; rw [← ey11]; exact w.1, w.2⟩)
              · exact absurd w.1 id
            · rw [if_neg q1]
              rw [show (r2 + 1 - t7).toNat = (r2 + 1 - (t7 + 1)).toNat + 1 by omega, sumN] at tS
              have rest2 : 0 ≤ sumN (fun i => sumN (fun j => isN (S.2.2.2.1.1.2.2.2 (i - 1) (j - 1))) (c2 + 1 - c).toNat c) (r2 + 1 - (t7 + 1)).toNat (t7 + 1) := (sumN_b (B := 10) (fun i => ⟨(rowS_b S.2.2.2.1.1 c c2 i).1, by have := (rowS_b S.2.2.2.1.1 c c2 i).2; omega⟩) _ _).1
              generalize hrest : sumN (fun i => sumN (fun j => isN (S.2.2.2.1.1.2.2.2 (i - 1) (j - 1))) (c2 + 1 - c).toNat c) (r2 + 1 - (t7 + 1)).toNat (t7 + 1) = rest at tS rest2
              unfold F_X11_erase_76
              refine lp_I (fun p => (c ≤ p.2.1 ∧ p.2.1 ≤ c2 + 1) ∧ 0 ≤ p.1 ∧ p.1 + sumN (fun j => isN (S.2.2.2.1.1.2.2.2 (t7 - 1) (j - 1))) (c2 + 1 - p.2.1).toNat p.2.1 + rest = hadS S.2.2.2.1.1 r c r2 c2 ∧ NS z q x ra ca S.2.2.2.1.1.1.1 S.2.2.2.1.1.1.2 (fun a d => if rcu r c c2 t7 p.2.1 (a + 1) (d + 1) = true then none else zO z xa (a * S.2.2.2.1.1.1.2 + d)) p.2.2) (fun p => (c2 + 1 - p.2.1).toNat) ?_ (t6, c, y) ⟨⟨Int.le_refl _, by show c ≤ c2 + 1; omega⟩, t60, by show t6 + sumN _ (c2 + 1 - c).toNat c + rest = _; omega, NY⟩
              rintro G2 ⟨p6, p8, w⟩ ⟨⟨p80, p81⟩, p60, pS, NW⟩ ih2
              simp only at p80 p81 p60 pS NW
              unfold L_X11_erase_76 F_X11_erase_104
              dsimp only
              by_cases q2 : c2 < p8
              · rw [if_pos q2]
                have ep : p8 = c2 + 1 := by omega
                subst ep
                rw [show (c2 + 1 - (c2 + 1)).toNat = 0 by omega, sumN] at pS
                show G (p6, w32 (t7 + 1), w)
                rw [w32e (by omega) (by omega)]
                refine ih (p6, t7 + 1, w) ⟨⟨by show r ≤ t7 + 1; omega, by show t7 + 1 ≤ r2 + 1; omega⟩, p60, by show p6 + sumN _ (r2 + 1 - (t7 + 1)).toNat (t7 + 1) = _; rw [hrest]; omega, ?_⟩ (by show (r2 + 1 - (t7 + 1)).toNat < (r2 + 1 - t7).toNat; omega)
                have eF : (fun a d => if rcu r c c2 t7 (c2 + 1) (a + 1) (d + 1) = true then none else zO z xa (a * S.2.2.2.1.1.1.2 + d)) = fun a d => if rcu r c c2 (t7 + 1) c (a + 1) (d + 1) = true then none else zO z xa (a * S.2.2.2.1.1.1.2 + d) := by
                  funext a d
                  have eq : rcu r c c2 t7 (c2 + 1) (a + 1) (d + 1) = rcu r c c2 (t7 + 1) c (a + 1) (d + 1) := by unfold rcu; exact decide_eq_decide.mpr (by omega)
                  rw [eq]
                rw [eF] at NW; exact NW
              · rw [if_neg q2]
                rw [show (c2 + 1 - p8).toNat = (c2 + 1 - (p8 + 1)).toNat + 1 by omega, sumN] at pS
                have cB := (sumN_b (g := fun j => isN (S.2.2.2.1.1.2.2.2 (t7 - 1) (j - 1))) (B := 1) (fun k => isN_b _) (c2 + 1 - (p8 + 1)).toNat (p8 + 1)).1
                have iB := isN_b (S.2.2.2.1.1.2.2.2 (t7 - 1) (p8 - 1))
                have fnw := NW.2.2.2.1
                have kb0 : zK w (b 0) = 12 := (fnw.1 (b 0) (by rw [cK cw 0 rfl rfl]; decide)).1.trans (cK cw 0 rfl rfl)
                have e11 : zO w (b 0) 11 = some wa := (fnw.2 (b 0) 11 (by rw [cK cw 0 rfl rfl]; decide) (fun w => w)).2.2.trans hw
                refine ⟨kb0, wa, e11, (fnw.1 wa (by rw [k7]; decide)).1.trans k7, ?_⟩
                refine k_at (Shp_fr Sp fnw (fun w => w) (fun w => w) (fun w => w)) ?_
                have eC : cAt w xa S.2.2.2.1.1.1.1 S.2.2.2.1.1.1.2 t7 p8 = zO z xa ((t7 - 1) * S.2.2.2.1.1.1.2 + (p8 - 1)) := by
                  unfold cAt
                  rw [if_pos (by omega)]
                  exact (fnw.2 xa _ (by rw [Sp.2.2.2.2.2.2.1]; decide) (fun w => w)).2.2
                rw [eC]
                have put : ∀ k, k = isN (S.2.2.2.1.1.2.2.2 (t7 - 1) (p8 - 1)) → ∃ a_114, some q = some a_114 ∧ zK w a_114 = 7 ∧ F_X6_put a_114 t7 p8 none w (fun z_114 => G2 (w32 (p6 + k), w32 (p8 + 1), z_114)) := by
                  intro k hk
                  refine ⟨q, rfl, NW.2.2.2.2.1.1, NS_put NW (by omega) (by omega) (fun v hv => by cases hv) (fun w' NW' _ => ?_)⟩
                  rw [w32e (x := p6 + k) (by omega) (by omega), w32e (x := p8 + 1) (by omega) (by omega)]
                  refine ih2 (p6 + k, p8 + 1, w') ⟨⟨by show c ≤ p8 + 1; omega, by show p8 + 1 ≤ c2 + 1; omega⟩, by show 0 ≤ p6 + k; omega, by show p6 + k + sumN _ (c2 + 1 - (p8 + 1)).toNat (p8 + 1) + rest = _; rw [hk]; omega, ?_⟩ (by show (c2 + 1 - (p8 + 1)).toNat < (c2 + 1 - p8).toNat; omega)
                  have eF : (fun a d => if a = t7 - 1 ∧ d = p8 - 1 then none else (fun a d => if rcu r c c2 t7 p8 (a + 1) (d + 1) = true then none else zO z xa (a * S.2.2.2.1.1.1.2 + d)) a d) = fun a d => if rcu r c c2 t7 (p8 + 1) (a + 1) (d + 1) = true then none else zO z xa (a * S.2.2.2.1.1.1.2 + d) := by
                    funext a d
                    dsimp only
                    by_cases qq : a = t7 - 1 ∧ d = p8 - 1
                    · rw [if_pos qq, if_pos (by unfold rcu; exact decide_eq_true (by omega))]
                    · rw [if_neg qq]
                      have eq : rcu r c c2 t7 p8 (a + 1) (d + 1) = rcu r c c2 t7 (p8 + 1) (a + 1) (d + 1) := by unfold rcu; exact decide_eq_decide.mpr (by omega)
                      rw [eq]
                  rw [eF] at NW'; exact NW'
                rcases ContC_0 (g6 (t7 - 1) (p8 - 1) (by omega) (by omega) (by omega) (by omega)) with ⟨z1, z2⟩ | ⟨z1, z2⟩
                · rw [if_pos z1]; exact put 0 z2.symm
                · rw [if_neg z1]; exact put 1 z2.symm
          · show NS z q x ra ca S.2.2.2.1.1.1.1 S.2.2.2.1.1.1.2 (fun a d => if rcu r c c2 r c (a + 1) (d + 1) = true then none else zO z xa (a * S.2.2.2.1.1.1.2 + d)) y0
            have eF : (fun a d => if rcu r c c2 r c (a + 1) (d + 1) = true then none else zO z xa (a * S.2.2.2.1.1.1.2 + d)) = fun a d => zO z xa (a * S.2.2.2.1.1.1.2 + d) := by
              funext a d
              rw [if_neg (by unfold rcu; rw [decide_eq_true_iff]; omega)]
            rw [eF]; exact N0
        · rw [if_neg e4]; rw [if_neg (by omega)] at hx2; exact ⟨by omega, by omega, hx2 rfl⟩
    · rw [show tb ((1 ≤ r2 ∧ r2 ≤ S.2.2.2.1.1.1.1) ∧ 1 ≤ c2 ∧ c2 ≤ S.2.2.2.1.1.1.2) = 0 by rw [tb, if_neg e2], if_pos rfl]
      rw [if_neg (fun w => e2 w.2)] at hx1; exact ⟨by omega, by omega, hx1 rfl⟩
  · rw [show tb ((1 ≤ r ∧ r ≤ S.2.2.2.1.1.1.1) ∧ 1 ≤ c ∧ c ≤ S.2.2.2.1.1.1.2) = 0 by rw [tb, if_neg e1], if_pos rfl]
    rw [if_neg (fun w => e1 w.1)] at hx1; exact ⟨by omega, by omega, hx1 rfl⟩
