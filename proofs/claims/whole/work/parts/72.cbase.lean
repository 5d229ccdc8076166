/-! ===== the system's heap: what stays ===== -/
/-- all that was there is as it was, but at W -/
def FrZ (W : Nat → Int → Prop) (z z' : Z) : Prop := (∀ a, zK z a ≠ 0 → zK z' a = zK z a ∧ zN z' a = zN z a) ∧ ∀ a i, zK z a ≠ 0 → ¬ W a i → zI z' a i = zI z a i ∧ zG z' a i = zG z a i ∧ zO z' a i = zO z a i
def nW : Nat → Int → Prop := fun _ _ => False
theorem FrZ_rf {W : Nat → Int → Prop} {z : Z} : FrZ W z z := ⟨fun _ _ => ⟨rfl, rfl⟩, fun _ _ _ _ => ⟨rfl, rfl, rfl⟩⟩
theorem FrZ_tr {W : Nat → Int → Prop} {z y w : Z} (f : FrZ W z y) (g : FrZ W y w) : FrZ W z w := by
  refine ⟨fun a h => ?_, fun a i h hn => ?_⟩
  · obtain ⟨e1, e2⟩ := f.1 a h
    obtain ⟨e3, e4⟩ := g.1 a (by rw [e1]; exact h)
    exact ⟨e3.trans e1, e4.trans e2⟩
  · obtain ⟨e1, e2, e3⟩ := f.2 a i h hn
    obtain ⟨e4, e5, e6⟩ := g.2 a i (by rw [(f.1 a h).1]; exact h) hn
    exact ⟨e4.trans e1, e5.trans e2, e6.trans e3⟩
theorem FrZ_mono {W V : Nat → Int → Prop} {z y : Z} (f : FrZ W z y) (h : ∀ a i, zK z a ≠ 0 → W a i → V a i) : FrZ V z y := ⟨f.1, fun a i ha hn => f.2 a i ha (fun w => hn (h a i ha w))⟩
theorem FrZ_wI {W : Nat → Int → Prop} {z y : Z} {a : Nat} {i x : Int} (f : FrZ W z y) (h : W a i ∨ zK z a = 0) : FrZ W z (wI y a i x) := by
  refine ⟨f.1, fun b j hb hn => ?_⟩
  obtain ⟨e1, e2, e3⟩ := f.2 b j hb hn
  refine ⟨?_, e2, e3⟩
  rw [zI_wI, if_neg]; · exact e1
  rintro ⟨rfl, rfl⟩; exact h.elim hn hb
theorem FrZ_wG {W : Nat → Int → Prop} {z y : Z} {a : Nat} {i x : Int} (f : FrZ W z y) (h : W a i ∨ zK z a = 0) : FrZ W z (wG y a i x) := by
  refine ⟨f.1, fun b j hb hn => ?_⟩
  obtain ⟨e1, e2, e3⟩ := f.2 b j hb hn
  refine ⟨e1, ?_, e3⟩
  rw [zG_wG, if_neg]; · exact e2
  rintro ⟨rfl, rfl⟩; exact h.elim hn hb
theorem FrZ_wO {W : Nat → Int → Prop} {z y : Z} {a : Nat} {i : Int} {x : Option Nat} (f : FrZ W z y) (h : W a i ∨ zK z a = 0) : FrZ W z (wO y a i x) := by
  refine ⟨f.1, fun b j hb hn => ?_⟩
  obtain ⟨e1, e2, e3⟩ := f.2 b j hb hn
  refine ⟨e1, e2, ?_⟩
  rw [zO_wO, if_neg]; · exact e3
  rintro ⟨rfl, rfl⟩; exact h.elim hn hb
theorem FrZ_nZ {W : Nat → Int → Prop} {z y : Z} {q c : Nat} {n : Int} (f : FrZ W z y) (hq : zK y q = 0) : FrZ W z (nZ y q c n) := by
  have ne : ∀ b, zK z b ≠ 0 → b ≠ q := fun b hb e => by rw [← (f.1 b hb).1, e] at hb; exact hb hq
  refine ⟨fun b hb => ?_, fun b j hb hn => ?_⟩
  · rw [zK_nZ, zN_nZ, if_neg (ne b hb), if_neg (ne b hb)]; exact f.1 b hb
  · rw [zI_nZ, zG_nZ, zO_nZ, if_neg (ne b hb), if_neg (ne b hb), if_neg (ne b hb)]; exact f.2 b j hb hn
theorem FrK {W : Nat → Int → Prop} {z y : Z} (f : FrZ W z y) {a c : Nat} (h : zK z a = c + 1) : zK y a = c + 1 := by rw [(f.1 a (by omega)).1, h]
/-! ===== sheets of the system ===== -/
def Shp (z : Z) (a ra ca xa : Nat) (nr nc : Int) : Prop := zK z a = 7 ∧ zO z a 0 = some ra ∧ zO z a 1 = some ca ∧ zO z a 2 = some xa ∧ zK z ra = 15 ∧ zK z ca = 15 ∧ zK z xa = 19 ∧ zN z ra = nr ∧ zN z ca = nc ∧ zN z xa = nr * nc ∧ (1 ≤ nr ∧ nr ≤ 32) ∧ (1 ≤ nc ∧ nc ≤ 10)
theorem cix {r c nr nc : Int} (r1 : 1 ≤ r) (r2 : r ≤ nr) (c1 : 1 ≤ c) (c2 : c ≤ nc) : 0 ≤ (r - 1) * nc ∧ 0 ≤ (r - 1) * nc + (c - 1) ∧ (r - 1) * nc + (c - 1) < nr * nc := by
  have h1 : 0 ≤ (r - 1) * nc := Int.mul_nonneg (by omega) (by omega)
  have h2 : (r - 1) * nc ≤ (nr - 1) * nc := Int.mul_le_mul_of_nonneg_right (by omega) (by omega)
  have h3 : (nr - 1) * nc = nr * nc - nc := by rw [Int.sub_mul, Int.one_mul]
  omega
theorem cnt {nr nc : Int} (h1 : 1 ≤ nr ∧ nr ≤ 32) (h2 : 1 ≤ nc ∧ nc ≤ 10) : 1 ≤ nr * nc ∧ nr * nc ≤ 320 := by
  have a1 : 1 * nc ≤ nr * nc := Int.mul_le_mul_of_nonneg_right (by omega) (by omega)
  have a2 : nr * nc ≤ 32 * nc := Int.mul_le_mul_of_nonneg_right (by omega) (by omega)
  omega
theorem k_has {z : Z} {a ra ca xa : Nat} {nr nc r c : Int} {P : Int → Prop} (S : Shp z a ra ca xa nr nc) (h : P (tb ((1 ≤ r ∧ r ≤ nr) ∧ (1 ≤ c ∧ c ≤ nc)))) : F_X6_has a r c z P := by
  obtain ⟨s1, s2, s3, s4, s5, s6, s7, s8, s9, s10, s11, s12⟩ := S
  unfold F_X6_has F_X6_has_32 F_X6_has_33
  by_cases c1 : r < 1
  · rw [if_pos c1]; rw [tb, if_neg (by omega)] at h; exact ⟨z1_0, h⟩
  rw [if_neg c1]
  refine ⟨s1, ra, s2, s5, ?_⟩
  rw [s8]
  by_cases c2 : nr < r
  · rw [if_pos c2]; rw [tb, if_neg (by omega)] at h; exact ⟨z1_0, h⟩
  rw [if_neg c2]
  by_cases c3 : c < 1
  · rw [if_pos c3]; rw [tb, if_neg (by omega)] at h; exact ⟨z1_0, h⟩
  rw [if_neg c3]
  refine ⟨ca, s3, s6, ?_⟩
  rw [s9]
  by_cases c4 : nc < c
  · rw [if_pos c4]; rw [tb, if_neg (by omega)] at h; exact ⟨z1_0, h⟩
  rw [if_neg c4]; rw [tb, if_pos (by omega)] at h; exact ⟨z1_1, h⟩
/-- the reference in a cell, nothing outside -/
def cAt (z : Z) (xa : Nat) (nr nc r c : Int) : Option Nat := if (1 ≤ r ∧ r ≤ nr) ∧ (1 ≤ c ∧ c ≤ nc) then zO z xa ((r - 1) * nc + (c - 1)) else none
theorem k_at {z : Z} {a ra ca xa : Nat} {nr nc r c : Int} {P : Option Nat → Prop} (S : Shp z a ra ca xa nr nc) (h : P (cAt z xa nr nc r c)) : F_X6_at a r c z P := by
  obtain ⟨s1, s2, s3, s4, s5, s6, s7, s8, s9, s10, s11, s12⟩ := id S
  unfold F_X6_at F_X6_at_31
  refine ⟨s1, k_has S ?_⟩
  unfold cAt at h
  by_cases g : (1 ≤ r ∧ r ≤ nr) ∧ (1 ≤ c ∧ c ≤ nc)
  · rw [if_neg (by rw [tb_0]; exact not_not_intro g)]
    rw [if_pos g] at h
    obtain ⟨g0, g1, g2⟩ := cix g.1.1 g.1.2 g.2.1 g.2.2
    have g3 := cnt s11 s12
    refine ⟨ca, s3, s6, xa, s4, s7, ?_⟩
    rw [s9, s10]
    simp (disch := omega) only [w32e]
    rw [show (r - 1) * nc + c - 1 = (r - 1) * nc + (c - 1) by omega]
    exact ⟨g1, g2, h⟩
  · rw [if_pos (by rw [tb_0]; exact g)]
    rw [if_neg g] at h; exact h
theorem k_put {z : Z} {a ra ca xa : Nat} {nr nc r c : Int} {v : Option Nat} {P : Z → Prop} (S : Shp z a ra ca xa nr nc) (hv : ∀ w, v = some w → zK z w = 2) (h : P (if (1 ≤ r ∧ r ≤ nr) ∧ (1 ≤ c ∧ c ≤ nc) then wO z xa ((r - 1) * nc + (c - 1)) v else z)) : F_X6_put a r c v z P := by
  obtain ⟨s1, s2, s3, s4, s5, s6, s7, s8, s9, s10, s11, s12⟩ := id S
  unfold F_X6_put F_X6_put_28
  refine ⟨s1, k_has S ?_⟩
  by_cases g : (1 ≤ r ∧ r ≤ nr) ∧ (1 ≤ c ∧ c ≤ nc)
  · rw [if_neg (by rw [tb_0]; exact not_not_intro g)]
    rw [if_pos g] at h
    obtain ⟨g0, g1, g2⟩ := cix g.1.1 g.1.2 g.2.1 g.2.2
    have g3 := cnt s11 s12
    refine ⟨ca, s3, s6, xa, s4, s7, ?_⟩
    rw [s9, s10]
    simp (disch := omega) only [w32e]
    rw [show (r - 1) * nc + c - 1 = (r - 1) * nc + (c - 1) by omega]
    refine ⟨g1, g2, hv, ?_⟩
    rintro _ rfl; exact h
  · rw [if_pos (by rw [tb_0]; exact g)]
    rw [if_neg g] at h; exact h
theorem k_line {z : Z} {a ra ca xa : Nat} {nr nc ax : Int} {P : Option Nat → Prop} (S : Shp z a ra ca xa nr nc) (h : P (some (if ax = 0 then ra else ca))) : F_X6_line a ax z P := by
  obtain ⟨s1, s2, s3, s4, -⟩ := S
  unfold F_X6_line F_X6_line_15
  by_cases c : ax = 0
  · rw [if_pos c]; rw [if_pos c] at h; exact ⟨s1, by rw [s2]; exact h⟩
  · rw [if_neg c]; rw [if_neg c] at h; exact ⟨s1, by rw [s3]; exact h⟩
theorem k_plc {z : Z} {la : Nat} {n id : Int} {P : Int → Prop} (hk : zK z la = 15) (hn : zN z la = n) (h32 : 0 ≤ n ∧ n ≤ 64) (h : P (plc (zI z la) id n + 1)) : F_X6_placeOf_15 id (some la) z P := by
  unfold F_X6_placeOf_15 F_X6_placeOf_19
  refine lp_I (fun k => 0 ≤ k ∧ k ≤ n ∧ plc (zI z la) id n = fst1 (zI z la) id (n - k).toNat k) (fun k => (n - k).toNat) ?_ 0 ⟨by omega, by omega, by unfold plc; congr 1; omega⟩
  rintro G k ⟨k0, k1, hk2⟩ ih
  unfold L_X6_placeOf_19
  refine ⟨la, rfl, hk, ?_⟩
  rw [hn]
  by_cases c : n ≤ k
  · rw [if_pos c]
    rw [show (n - k).toNat = 0 by omega, fst1] at hk2
    rw [hk2] at h; exact h
  · rw [if_neg c]
    rw [show (n - k).toNat = (n - (k + 1)).toNat + 1 by omega, fst1] at hk2
    refine ⟨k0, by omega, ?_⟩
    by_cases c2 : zI z la k = id
    · rw [if_pos c2]; rw [if_pos c2] at hk2; rw [hk2] at h
      show P (w32 (k + 1))
      rw [w32e (by omega) (by omega)]; exact h
    · rw [if_neg c2]; rw [if_neg c2] at hk2
      rw [w32e (by omega) (by omega)]
      exact ih (k + 1) ⟨by omega, by omega, hk2⟩ (by omega)
theorem k_placeOf {z : Z} {a ra ca xa : Nat} {nr nc ax id : Int} {P : Int → Prop} (S : Shp z a ra ca xa nr nc) (h : P (if ax = 0 then plc (zI z ra) id nr + 1 else plc (zI z ca) id nc + 1)) : F_X6_placeOf a ax id z P := by
  obtain ⟨s1, s2, s3, s4, s5, s6, s7, s8, s9, s10, s11, s12⟩ := S
  unfold F_X6_placeOf
  by_cases c : ax = 0
  · rw [if_pos c]; rw [if_pos c] at h
    refine ⟨s1, ?_⟩
    rw [s2]; exact k_plc s5 s8 (by omega) h
  · rw [if_neg c]; rw [if_neg c] at h
    refine ⟨s1, ?_⟩
    rw [s3]; exact k_plc s6 s9 (by omega) h
theorem Shp_fr {W : Nat → Int → Prop} {z y : Z} {a ra ca xa : Nat} {nr nc : Int} (S : Shp z a ra ca xa nr nc) (f : FrZ W z y) (h0 : ¬ W a 0) (h1 : ¬ W a 1) (h2 : ¬ W a 2) : Shp y a ra ca xa nr nc := by
  obtain ⟨s1, s2, s3, s4, s5, s6, s7, s8, s9, s10, s11, s12⟩ := S
  have ka : zK z a ≠ 0 := by rw [s1]; decide
  have kr : zK z ra ≠ 0 := by rw [s5]; decide
  have kc : zK z ca ≠ 0 := by rw [s6]; decide
  have kx : zK z xa ≠ 0 := by rw [s7]; decide
  exact ⟨(f.1 a ka).1.trans s1, (f.2 a 0 ka h0).2.2.trans s2, (f.2 a 1 ka h1).2.2.trans s3, (f.2 a 2 ka h2).2.2.trans s4, (f.1 ra kr).1.trans s5, (f.1 ca kc).1.trans s6, (f.1 xa kx).1.trans s7, (f.1 ra kr).2.trans s8, (f.1 ca kc).2.trans s9, (f.1 xa kx).2.trans s10, s11, s12⟩
/-- a new sheet over lines that are there -/
def New7 (z : Z) (ra ca : Nat) (nr nc : Int) (q x : Nat) (y : Z) : Prop := zK z q = 0 ∧ zK z x = 0 ∧ q ≠ x ∧ FrZ nW z y ∧ Shp y q ra ca x nr nc ∧ zO y q 3 = none ∧ (∀ b, zK z b = 0 → b ≠ q → b ≠ x → zK y b = 0)
theorem k_new7 {z : Z} {ra ca : Nat} {nr nc : Int} {c s : Nat} {q : Nat} {P : Z → Prop} (hq : zK z q = 0) (k1 : zK z ra = 15) (k2 : zK z ca = 15) (n1 : zN z ra = nr) (n2 : zN z ca = nc) (b1 : 1 ≤ nr ∧ nr ≤ 32) (b2 : 1 ≤ nc ∧ nc ≤ 10) (hc : 1 ≤ c) (hs : (nr * nc).toNat ≤ s) (h : ∀ x y, New7 z ra ca nr nc q x y → (∀ i, zO y x i = none) → P y) : F_X6_init q (some ra) (some ca) (nZ z q 7 0) c s P := by
  have rq : ra ≠ q := fun e => by rw [e, hq] at k1; cases k1
  have cq : ca ≠ q := fun e => by rw [e, hq] at k2; cases k2
  have g3 := cnt b1 b2
  unfold F_X6_init
  refine ⟨zK_new, ?_⟩
  rintro _ rfl _ rfl
  refine ⟨ra, rfl, ?_, ca, rfl, ?_, ?_⟩
  · show zK (nZ z q 7 0) ra = 15; rw [zK_nZ, if_neg rq, k1]
  · show zK (nZ z q 7 0) ca = 15; rw [zK_nZ, if_neg cq, k2]
  have e1 : zN (wO (wO (nZ z q 7 0) q 0 (some ra)) q 1 (some ca)) ra = nr := by show zN (nZ z q 7 0) ra = nr; rw [zN_nZ, if_neg rq, n1]
  have e2 : zN (wO (wO (nZ z q 7 0) q 0 (some ra)) q 1 (some ca)) ca = nc := by show zN (nZ z q 7 0) ca = nc; rw [zN_nZ, if_neg cq, n2]
  rw [e1, e2, w32e (by omega) (by omega)]
  refine ⟨by omega, by omega, hc, hs, fun x hx => ?_⟩
  rintro _ rfl
  have hx' : zK (nZ z q 7 0) x = 0 := hx
  have xq : x ≠ q := fun e => by rw [e, zK_new] at hx'; cases hx'
  have hx0 : zK z x = 0 := by rw [zK_nZ, if_neg xq] at hx'; exact hx'
  have rx : ra ≠ x := fun e => by rw [e, hx0] at k1; cases k1
  have cx : ca ≠ x := fun e => by rw [e, hx0] at k2; cases k2
  have kq : zK (nZ (wO (wO (nZ z q 7 0) q 0 (some ra)) q 1 (some ca)) x 19 (nr * nc)) q = 7 := by rw [zK_nZ, if_neg (Ne.symm xq)]; exact zK_new (n := 0)
  refine ⟨kq, ?_⟩
  rintro _ rfl
  refine h x _ ⟨hq, hx0, Ne.symm xq, ?_, ?_, ?_, ?_⟩ ?_
  · exact FrZ_wO (FrZ_nZ (FrZ_wO (FrZ_wO (FrZ_nZ FrZ_rf hq) (Or.inr hq)) (Or.inr hq)) hx) (Or.inr hq)
  · refine ⟨kq, ?_, ?_, ?_, ?_, ?_, ?_, ?_, ?_, ?_, b1, b2⟩
    · rw [zO_wO, if_neg (by omega), zO_nZ, if_neg (Ne.symm xq), zO_wO, if_neg (by omega), zO_wO, if_pos ⟨rfl, rfl⟩]
    · rw [zO_wO, if_neg (by omega), zO_nZ, if_neg (Ne.symm xq), zO_wO, if_pos ⟨rfl, rfl⟩]
    · rw [zO_wO, if_pos ⟨rfl, rfl⟩]
    · show zK (nZ (wO (wO (nZ z q 7 0) q 0 (some ra)) q 1 (some ca)) x 19 (nr * nc)) ra = 15
      rw [zK_nZ, if_neg rx]; show zK (nZ z q 7 0) ra = 15; rw [zK_nZ, if_neg rq, k1]
    · show zK (nZ (wO (wO (nZ z q 7 0) q 0 (some ra)) q 1 (some ca)) x 19 (nr * nc)) ca = 15
      rw [zK_nZ, if_neg cx]; show zK (nZ z q 7 0) ca = 15; rw [zK_nZ, if_neg cq, k2]
    · show zK (nZ (wO (wO (nZ z q 7 0) q 0 (some ra)) q 1 (some ca)) x 19 (nr * nc)) x = 19
      exact zK_new
    · show zN (nZ (wO (wO (nZ z q 7 0) q 0 (some ra)) q 1 (some ca)) x 19 (nr * nc)) ra = nr
      rw [zN_nZ, if_neg rx]; exact e1
    · show zN (nZ (wO (wO (nZ z q 7 0) q 0 (some ra)) q 1 (some ca)) x 19 (nr * nc)) ca = nc
      rw [zN_nZ, if_neg cx]; exact e2
    · show zN (nZ (wO (wO (nZ z q 7 0) q 0 (some ra)) q 1 (some ca)) x 19 (nr * nc)) x = nr * nc
      rw [zN_nZ, if_pos rfl]
  · rw [zO_wO, if_neg (by omega), zO_nZ, if_neg (Ne.symm xq), zO_wO, if_neg (by omega), zO_wO, if_neg (by omega), zO_nZ, if_pos rfl]
  · intro b hb n1 n2
    show zK (nZ (wO (wO (nZ z q 7 0) q 0 (some ra)) q 1 (some ca)) x 19 (nr * nc)) b = 0
    rw [zK_nZ, if_neg n2]; show zK (nZ z q 7 0) b = 0; rw [zK_nZ, if_neg n1, hb]
  · intro i
    rw [zO_wO, if_neg (fun w => xq w.1), zO_nZ, if_pos rfl]
/-- a twin of a sheet -/
theorem k_twin {z : Z} {a ra ca xa : Nat} {nr nc : Int} {c s : Nat} {P : Option Nat → Z → Prop} (S : Shp z a ra ca xa nr nc) (hv : ∀ i, 0 ≤ i → i < nr * nc → ∀ v, zO z xa i = some v → zK z v = 2) (hc : 2 ≤ c) (hs : 4 + (nr * nc).toNat ≤ s) (h : ∀ q x y, New7 z ra ca nr nc q x y → (∀ i, 0 ≤ i → i < nr * nc → zO y x i = zO z xa i) → P (some q) y) : F_X6_twin a z c s P := by
  obtain ⟨s1, s2, s3, s4, s5, s6, s7, s8, s9, s10, s11, s12⟩ := id S
  have g3 := cnt s11 s12
  unfold F_X6_twin
  refine ⟨by omega, by omega, fun q hq => ?_⟩
  rintro _ rfl
  have aq : a ≠ q := fun e => by rw [e, hq] at s1; cases s1
  refine ⟨by rw [zK_nZ, if_neg aq, s1], 1, (nr * nc).toNat, by omega, by omega, ?_⟩
  rw [show zO (nZ z q 7 0) a 0 = some ra by rw [zO_nZ, if_neg aq, s2], show zO (nZ z q 7 0) a 1 = some ca by rw [zO_nZ, if_neg aq, s3]]
  refine k_new7 hq s5 s6 s8 s9 s11 s12 (by omega) (by omega) (fun x y hn hnone => ?_)
  obtain ⟨-, hx, qx, f, S', n3, new⟩ := id hn
  unfold F_X6_twin_18
  have ax : xa ≠ x := fun e => by rw [e, hx] at s7; cases s7
  refine lp_I (fun p => 0 ≤ p.1 ∧ p.1 ≤ nr * nc ∧ New7 z ra ca nr nc q x p.2 ∧ ∀ i, 0 ≤ i → i < p.1 → zO p.2 x i = zO z xa i) (fun p => (nr * nc - p.1).toNat) ?_ (0, y) ⟨by show (0 : Int) ≤ 0; omega, by show (0 : Int) ≤ nr * nc; omega, hn, fun i h0 h1 => by exfalso; have : i < 0 := h1; omega⟩
  rintro G ⟨k, w⟩ ⟨k0, k1, hn2, hk⟩ ih
  simp only at k0 k1 hn2 hk
  obtain ⟨-, -, -, fw, Sw, w3, neww⟩ := id hn2
  obtain ⟨t1, t2, t3, t4, t5, t6, t7, t8, t9, t10, t11, t12⟩ := id Sw
  have Sa := Shp_fr S fw (fun w => w) (fun w => w) (fun w => w)
  obtain ⟨u1, u2, u3, u4, u5, u6, u7, u8, u9, u10, u11, u12⟩ := id Sa
  unfold L_X6_twin_18
  refine ⟨u1, xa, u4, u7, ?_⟩
  rw [u10]
  by_cases cc : nr * nc ≤ k
  · rw [if_pos cc]
    exact h q x w hn2 (fun i h0 h1 => hk i h0 (by omega))
  · rw [if_neg cc]
    have kx : zK z xa ≠ 0 := by rw [s7]; decide
    have ex : zO w xa k = zO z xa k := (fw.2 xa k kx (fun w => w)).2.2
    refine ⟨q, rfl, t1, k0, by omega, x, t4, t7, k0, by show k < zN w x; omega, ?_, ?_⟩
    · intro v hv2
      rw [ex] at hv2
      have k2 := hv k k0 (by omega) v hv2
      rw [(fw.1 v (by rw [k2]; decide)).1, k2]
    · rintro _ rfl
      rw [w32e (by omega) (by omega)]
      refine ih (k + 1, _) ⟨by show 0 ≤ k + 1; omega, by show k + 1 ≤ nr * nc; omega, ⟨hq, hx, qx, FrZ_wO fw (Or.inr hx), ?_, ?_, neww⟩, ?_⟩ (by show (nr * nc - (k + 1)).toNat < (nr * nc - k).toNat; omega)
      · have ne : ∀ i, zO (wO w x k (zO w xa k)) q i = zO w q i := fun i => by rw [zO_wO, if_neg (fun e => qx e.1)]
        exact ⟨t1, (ne 0).trans t2, (ne 1).trans t3, (ne 2).trans t4, t5, t6, t7, t8, t9, t10, t11, t12⟩
      · rw [zO_wO, if_neg (fun e => qx e.1)]; exact w3
      · intro i h0 h1
        rw [zO_wO]
        by_cases ck : i = k
        · rw [if_pos ⟨rfl, ck⟩, ex, ck]
        · rw [if_neg (fun e => ck e.2)]
          have h1' : i < k + 1 := h1
          exact hk i h0 (by omega)
