/-! ===== the constructor of the system: its first Sheets ===== -/
theorem o_up {z : Z} {n : Int} {c s : Nat} {P : Option Nat → Z → Prop} (n0 : 0 ≤ n ∧ n ≤ 40) (hc : 1 ≤ c) (hs : n.toNat ≤ s) (p : ∀ y a, zK z a = 0 → FrZ nW z y → zK y a = 15 → zN y a = n → (∀ i, 0 ≤ i → i < n → zI y a i = i + 1) → P (some a) y) : F_X11_countedUp n z c s P := by
  unfold F_X11_countedUp
  have e : max n 0 = n := by omega
  rw [e]
  refine ⟨n0.1, by omega, hc, hs, fun a ha => ?_⟩
  rintro _ rfl
  unfold F_X11_countedUp_10
  refine lp_I (fun q => 0 ≤ q.1 ∧ q.1 ≤ n ∧ FrZ nW z q.2 ∧ (zK q.2 a = 15 ∧ zN q.2 a = n) ∧ ∀ i, 0 ≤ i → i < q.1 → zI q.2 a i = i + 1) (fun q => (n - q.1).toNat) ?_ (0, nZ z a 15 n) ⟨by show (0 : Int) ≤ 0; omega, n0.1, FrZ_nZ FrZ_rf ha, ⟨by show zK (nZ z a 15 n) a = 15; rw [zK_nZ, if_pos rfl], by show zN (nZ z a 15 n) a = n; rw [zN_nZ, if_pos rfl]⟩, fun i h0 h1 => by exfalso; have : i < 0 := h1; omega⟩
  rintro G ⟨k, w⟩ ⟨k0, k1, f, ⟨ka, na⟩, hk⟩ ih
  simp only at k0 k1 f ka na hk
  show L_X11_countedUp_10 (some a) k w (c - 1) (s - n.toNat) _
  unfold L_X11_countedUp_10
  refine ⟨a, rfl, ka, ?_⟩
  rw [na]
  by_cases cc : n ≤ k
  · rw [if_pos cc]
    exact p w a ha f ka na (fun i h0 h1 => hk i h0 (by omega))
  rw [if_neg cc]
  refine ⟨k0, by omega, ?_⟩
  rintro _ rfl
  rw [w32e (x := k + 1) (by omega) (by omega)]
  refine ih (k + 1, _) ⟨by show 0 ≤ k + 1; omega, by show k + 1 ≤ n; omega, FrZ_wI f (Or.inr ha), ⟨ka, na⟩, fun i h0 h1 => ?_⟩ (by show (n - (k + 1)).toNat < (n - k).toNat; omega)
  show zI (wI w a k (k + 1)) a i = i + 1
  have h1 : i < k + 1 := h1
  rw [zI_wI]
  by_cases e : i = k
  · rw [if_pos ⟨rfl, e⟩, e]
  · rw [if_neg (fun w => e w.2)]; exact hk i h0 (by omega)
def wFs : WR := [(18, some 0), (19, some 0), (20, some 0), (21, some 0), (3, some 4), (0, some 11), (9, none)]
def wFa : WR := [(18, some 0), (19, some 0), (20, some 0), (21, some 0), (3, some 4)]
def Fre (z : Z) (b sv sb : Nat → Nat) : Prop := CWz z b ∧ (∀ k, k < 35 → k ≠ 22 → ∀ i, crw.contains (k, some i) = false → ¬ (k = 0 ∧ (i = 13 ∨ i = 16 ∨ i = 17)) → zI z (b k) i = 0 ∧ zG z (b k) i = 0 ∧ zO z (b k) i = none) ∧ (zI z (b 0) 13 = -1 ∧ zI z (b 0) 16 = 8 ∧ zI z (b 0) 17 = 6) ∧ StK z b sv sb ∧ ∀ m : Nat, m < 60 → ∀ k, k < 35 → sv m ≠ b k ∧ sb m ≠ b k
def Mde (z y : Z) (b : Nat → Nat) (a1 a2 ra ca x1 x2 : Nat) : Prop := FrZ (WB b wFs) z y ∧ (Shp y a1 ra ca x1 8 6 ∧ Shp y a2 ra ca x2 8 6) ∧ ((zK z a1 = 0 ∧ zK z a2 = 0 ∧ a1 ≠ a2) ∧ zK z ra = 0 ∧ zK z ca = 0 ∧ zK z x1 = 0 ∧ zK z x2 = 0) ∧ (zO y a1 3 = none ∧ zO y a2 3 = none) ∧ ((∀ i, 0 ≤ i → i < 8 → zI y ra i = i + 1) ∧ (∀ i, 0 ≤ i → i < 6 → zI y ca i = i + 1) ∧ ∀ i, 0 ≤ i → i < 48 → zO y x1 i = none ∧ zO y x2 i = none) ∧ (zO y (b 18) 0 = some a1 ∧ zI y (b 19) 0 = -1 ∧ zI y (b 20) 0 = -1 ∧ zG y (b 21) 0 = ancB (fun _ => -1) (fun _ => -1) 1 0 ∧ zI y (b 3) 4 = 1 ∧ zO y (b 0) 11 = some a2) ∧ ∀ k, 0 ≤ k → k < 6 → zI y (b 9) k = if k = 0 then 0 else -1
theorem WB_new {z : Z} {b : Nat → Nat} {L : WR} {a : Nat} {i : Int} (c : CWz z b) (h : zK z a = 0) : ¬ WB b L a i := by
  rintro ⟨t, -, h2, h3, -⟩
  exact kbz c h2 (by rw [← h3]; exact h)
theorem CWz_n {z y : Z} {b : Nat → Nat} (c : CWz z b) (f : FrZ nW z y) : CWz y b := CWz_fr (L := []) (T := no1) (C := no1) c (FrZ_mono f (fun _ _ _ w => w.elim)) rfl
/-- the loop of the branches -/
theorem o_bran {z : Z} {b : Nat → Nat} {c s : Nat} {P : Z → Prop} (C : CWz z b) (h0 : zI z (b 9) 0 = 0) (p : ∀ y, FrZ (WB b [(9, none)]) z y → (∀ k, 0 ≤ k → k < 6 → zI y (b 9) k = if k = 0 then 0 else -1) → P y) : F_X11_init_172 (b 0) 1 z c s P := by
  unfold F_X11_init_172
  refine lp_I (fun q => 1 ≤ q.1 ∧ q.1 ≤ 6 ∧ FrZ (WB b [(9, none)]) z q.2 ∧ ∀ i, 0 ≤ i → i < q.1 → zI q.2 (b 9) i = if i = 0 then 0 else -1) (fun q => (6 - q.1).toNat) ?_ (1, z) ⟨by show (1 : Int) ≤ 1; omega, by show (1 : Int) ≤ 6; omega, FrZ_rf, fun i i0 i1 => ?_⟩
  · rintro G ⟨k, w⟩ ⟨k0, k1, f, hk⟩ ih
    simp only at k0 k1 f hk
    have cw : CWz w b := CWz_fr C (WB_L f) (by decide)
    show L_X11_init_172 (b 0) k w c s _
    unfold L_X11_init_172
    refine ⟨cK cw 0 rfl rfl, b 9, cO cw 0 8 9 (by decide), cK cw 9 rfl rfl, ?_⟩
    rw [cN cw 9 (c := 6) rfl rfl]
    by_cases cc : 6 ≤ k
    · rw [if_pos cc]
      exact p w f (fun i i0 i1 => hk i i0 (by omega))
    rw [if_neg cc]
    refine ⟨by omega, by omega, ?_⟩
    rintro _ rfl
    rw [w32e (x := k + 1) (by omega) (by omega)]
    refine ih (k + 1, _) ⟨by show 1 ≤ k + 1; omega, by show k + 1 ≤ 6; omega, FrZ_wI f (Or.inl (WB_a (by decide) (by decide))), fun i i0 i1 => ?_⟩ (by show (6 - (k + 1)).toNat < (6 - k).toNat; omega)
    have i1 : i < k + 1 := i1
    show zI (wI w (b 9) k (-1)) (b 9) i = _
    rw [zI_wI]
    by_cases e : i = k
    · rw [if_pos ⟨rfl, e⟩, if_neg (by omega)]
    · rw [if_neg (fun w => e w.2)]; exact hk i i0 (by omega)
  · have i1 : i < 1 := i1
    have e : i = 0 := by omega
    rw [e, if_pos rfl]; exact h0
theorem w_rest {z : Z} {b sv sb : Nat → Nat} {c s : Nat} {P : Z → Prop} (h : Fre z b sv sb) (hc : 20 ≤ c) (hs : 200 ≤ s) (p : ∀ y a1 a2 ra ca x1 x2, Mde z y b a1 a2 ra ca x1 x2 → P y) : F_X11_init_133 (b 0) z c s P := by
  unfold F_X11_init_133
  refine ⟨by omega, by omega, fun a ha => ?_⟩
  rintro _ rfl
  have f0 : FrZ nW z (nZ z a 7 0) := FrZ_nZ FrZ_rf ha
  have k0 : zK (nZ z a 7 0) a = 7 := by rw [zK_nZ, if_pos rfl]
  have o0 : ∀ i, zO (nZ z a 7 0) a i = none := fun i => by rw [zO_nZ, if_pos rfl]
  generalize nZ z a 7 0 = z1 at *
  refine ⟨1, 8, by omega, by omega, o_up (by decide) (by decide) (by decide) (fun y1 ra hra f1 kr nr er => ?_)⟩
  refine ⟨1, 6, by omega, by omega, o_up (by decide) (by decide) (by decide) (fun y2 ca hca f2 kc nc ec => ?_)⟩
  have f12 := FrZ_tr f1 f2
  have ka2 : zK y2 a = 7 := (f12.1 a (by rw [k0]; decide)).1.trans k0
  have oa2 : ∀ i, zO y2 a i = none := fun i => (f12.2 a i (by rw [k0]; decide) (fun w => w)).2.2.trans (o0 i)
  have kr0 : zK y1 ra ≠ 0 := by rw [kr]; decide
  have kr2 : zK y2 ra = 15 := (f2.1 ra kr0).1.trans kr
  have nr2 : zN y2 ra = 8 := (f2.1 ra kr0).2.trans nr
  have er2 : ∀ i, 0 ≤ i → i < 8 → zI y2 ra i = i + 1 := fun i i0 i1 => (f2.2 ra i kr0 (fun w => w)).1.trans (er i i0 i1)
  have f02 : FrZ nW z y2 := FrZ_tr f0 f12
  have zra : zK z ra = 0 := new_of f0 hra
  have zca : zK z ca = 0 := new_of (FrZ_tr f0 f1) hca
  have hra' : ra ≠ a := fun e => by rw [e, k0] at hra; cases hra
  have hca' : ca ≠ a := fun e => by rw [e, (f1.1 a (by rw [k0]; decide)).1, k0] at hca; cases hca
  refine ⟨ka2, 1, 48, by omega, by omega, ?_⟩
  unfold F_X6_init
  refine ⟨ka2, ?_⟩
  rintro _ rfl
  rintro _ rfl
  refine ⟨ra, rfl, kr2, ca, rfl, kc, ?_⟩
  rw [show zN (wO (wO y2 a 0 (some ra)) a 1 (some ca)) ra = 8 from nr2, show zN (wO (wO y2 a 0 (some ra)) a 1 (some ca)) ca = 6 from nc, show w32 (8 * 6) = 48 by decide]
  refine ⟨by decide, by decide, by decide, by decide, fun x hx => ?_⟩
  rintro _ rfl
  have hx : zK y2 x = 0 := hx
  have xa : a ≠ x := fun e => by rw [← e, ka2] at hx; cases hx
  have xr : ra ≠ x := fun e => by rw [← e, kr2] at hx; cases hx
  have xc : ca ≠ x := fun e => by rw [← e, kc] at hx; cases hx
  refine ⟨by rw [zK_nZ, if_neg xa]; exact ka2, ?_⟩
  rintro _ rfl
  have f3 : FrZ nW z (wO (nZ (wO (wO y2 a 0 (some ra)) a 1 (some ca)) x 19 48) a 2 (some x)) := FrZ_wO (FrZ_nZ (FrZ_wO (FrZ_wO f02 (Or.inr ha)) (Or.inr ha)) hx) (Or.inr ha)
  have Sp : Shp (wO (nZ (wO (wO y2 a 0 (some ra)) a 1 (some ca)) x 19 48) a 2 (some x)) a ra ca x 8 6 := by
    refine ⟨?_, ?_, ?_, ?_, ?_, ?_, ?_, ?_, ?_, ?_, by decide, by decide⟩
    · rw [zK_wO, zK_nZ, if_neg xa]; exact ka2
    · rw [zO_wO, if_neg (fun w => absurd w.2 (by decide)), zO_nZ, if_neg xa, zO_wO, if_neg (fun w => absurd w.2 (by decide)), zO_wO, if_pos ⟨rfl, rfl⟩]
    · rw [zO_wO, if_neg (fun w => absurd w.2 (by decide)), zO_nZ, if_neg xa, zO_wO, if_pos ⟨rfl, rfl⟩]
    · rw [zO_wO, if_pos ⟨rfl, rfl⟩]
    · rw [zK_wO, zK_nZ, if_neg xr]; exact kr2
    · rw [zK_wO, zK_nZ, if_neg xc]; exact kc
    · rw [zK_wO, zK_nZ, if_pos rfl]
    · show zN (nZ _ x 19 48) ra = 8; rw [zN_nZ, if_neg xr]; exact nr2
    · show zN (nZ _ x 19 48) ca = 6; rw [zN_nZ, if_neg xc]; exact nc
    · show zN (nZ _ x 19 48) x = _; rw [zN_nZ, if_pos rfl]; decide
  have v3 : zO (wO (nZ (wO (wO y2 a 0 (some ra)) a 1 (some ca)) x 19 48) a 2 (some x)) a 3 = none := by
    rw [zO_wO, if_neg (fun w => absurd w.2 (by decide)), zO_nZ, if_neg xa, zO_wO, if_neg (fun w => absurd w.2 (by decide)), zO_wO, if_neg (fun w => absurd w.2 (by decide))]; exact oa2 3
  have cl : ∀ i, zO (wO (nZ (wO (wO y2 a 0 (some ra)) a 1 (some ca)) x 19 48) a 2 (some x)) x i = none := fun i => by
    rw [zO_wO, if_neg (fun w => xa w.1.symm), zO_nZ, if_pos rfl]
  have r3 : ∀ i, 0 ≤ i → i < 8 → zI (wO (nZ (wO (wO y2 a 0 (some ra)) a 1 (some ca)) x 19 48) a 2 (some x)) ra i = i + 1 := fun i i0 i1 => by
    rw [zI_wO, zI_nZ, if_neg xr]; exact er2 i i0 i1
  have c3' : ∀ i, 0 ≤ i → i < 6 → zI (wO (nZ (wO (wO y2 a 0 (some ra)) a 1 (some ca)) x 19 48) a 2 (some x)) ca i = i + 1 := fun i i0 i1 => by
    rw [zI_wO, zI_nZ, if_neg xc]; exact ec i i0 i1
  have zx : zK z x = 0 := new_of f02 hx
  generalize wO (nZ (wO (wO y2 a 0 (some ra)) a 1 (some ca)) x 19 48) a 2 (some x) = y3 at *
  clear f0 f1 f2 f12 f02 k0 o0 er ec kr nr er2 hra hca kc nc ka2 oa2 kr0 kr2 nr2 hx
  have c3 : CWz y3 b := CWz_n h.1 f3
  have i4 : zI y3 (b 3) 4 = 0 := (f3.2 (b 3) 4 (kbz h.1 (by decide)) (fun w => w)).1.trans (h.2.1 3 (by decide) (by decide) 4 rfl (by decide)).1
  have an : ∀ k, k < 35 → a ≠ b k := fun k hk e => kbz h.1 hk (by rw [← e]; exact ha)
  refine ⟨cK c3 0 rfl rfl, b 3, cO c3 0 2 3 (by decide), cK c3 3 rfl rfl, ?_⟩
  unfold F_X2_add
  refine ⟨cK c3 3 rfl rfl, ?_⟩
  rw [i4, if_pos (by decide)]
  refine ⟨b 18, cO c3 3 0 18 (by decide), cK c3 18 rfl rfl, by decide, by rw [cN c3 18 (c := 40) rfl rfl]; decide, fun v hv => by injection hv with hv; rw [← hv]; exact Sp.1, ?_⟩
  rintro _ rfl
  have f4 : FrZ (WB b wFa) z (wO y3 (b 18) 0 (some a)) := FrZ_wO (FrZ_mono f3 (fun _ _ _ w => w.elim)) (Or.inl (WB_i (by decide) (by decide)))
  have c4 : CWz (wO y3 (b 18) 0 (some a)) b := CWz_fr h.1 (WB_L f4) (by decide)
  have i4' : zI (wO y3 (b 18) 0 (some a)) (b 3) 4 = 0 := i4
  refine ⟨b 19, cO c4 3 1 19 (by decide), cK c4 19 rfl rfl, ?_⟩
  rw [i4']
  refine ⟨by decide, by rw [cN c4 19 (c := 40) rfl rfl]; decide, ?_⟩
  rintro _ rfl
  have c5 : CWz (wI (wO y3 (b 18) 0 (some a)) (b 19) 0 (-1)) b := c4
  have i5 : zI (wI (wO y3 (b 18) 0 (some a)) (b 19) 0 (-1)) (b 3) 4 = 0 := by rw [zI_wI, if_neg (fun w => cNe c4 rfl rfl rfl w.1)]; exact i4
  refine ⟨b 20, cO c5 3 2 20 (by decide), cK c5 20 rfl rfl, ?_⟩
  rw [i5]
  refine ⟨by decide, by rw [cN c5 20 (c := 40) rfl rfl]; decide, ?_⟩
  rintro _ rfl
  have c6 : CWz (wI (wI (wO y3 (b 18) 0 (some a)) (b 19) 0 (-1)) (b 20) 0 (-1)) b := c4
  have i6 : zI (wI (wI (wO y3 (b 18) 0 (some a)) (b 19) 0 (-1)) (b 20) 0 (-1)) (b 3) 4 = 0 := by rw [zI_wI, if_neg (fun w => cNe c4 rfl rfl rfl w.1)]; exact i5
  unfold F_X2_ancestorsOf F_X2_ancestorsOf_21 F_X2_ancestorsOf_22
  rw [if_pos (by decide)]
  show (if (-1 : Int) < 0 then _ else _)
  rw [if_pos (by decide)]
  refine ⟨b 21, cO c6 3 3 21 (by decide), cK c6 21 rfl rfl, ?_⟩
  rw [i6]
  refine ⟨by decide, by rw [cN c6 21 (c := 40) rfl rfl]; decide, ?_⟩
  rintro _ rfl
  rintro _ rfl
  rw [show zI (wG (wI (wI (wO y3 (b 18) 0 (some a)) (b 19) 0 (-1)) (b 20) 0 (-1)) (b 21) 0 (lOr (lOr (lShl 1 0) 0) 0)) (b 3) 4 = 0 from i6, show w32 (0 + 1) = 1 by decide]
  have f8 : FrZ (WB b wFa) z (wI (wG (wI (wI (wO y3 (b 18) 0 (some a)) (b 19) 0 (-1)) (b 20) 0 (-1)) (b 21) 0 (lOr (lOr (lShl 1 0) 0) 0)) (b 3) 4 1) := FrZ_wI (FrZ_wG (FrZ_wI (FrZ_wI f4 (Or.inl (WB_i (by decide) (by decide)))) (Or.inl (WB_i (by decide) (by decide)))) (Or.inl (WB_i (by decide) (by decide)))) (Or.inl (WB_i (by decide) (by decide)))
  have g3 : FrZ (WB b wFa) y3 (wI (wG (wI (wI (wO y3 (b 18) 0 (some a)) (b 19) 0 (-1)) (b 20) 0 (-1)) (b 21) 0 (lOr (lOr (lShl 1 0) 0) 0)) (b 3) 4 1) := FrZ_wI (FrZ_wG (FrZ_wI (FrZ_wI (FrZ_wO FrZ_rf (Or.inl (WB_i (by decide) (by decide)))) (Or.inl (WB_i (by decide) (by decide)))) (Or.inl (WB_i (by decide) (by decide)))) (Or.inl (WB_i (by decide) (by decide)))) (Or.inl (WB_i (by decide) (by decide)))
  have e18 : zO (wI (wG (wI (wI (wO y3 (b 18) 0 (some a)) (b 19) 0 (-1)) (b 20) 0 (-1)) (b 21) 0 (lOr (lOr (lShl 1 0) 0) 0)) (b 3) 4 1) (b 18) 0 = some a := by
    show zO (wO y3 (b 18) 0 (some a)) (b 18) 0 = some a
    rw [zO_wO, if_pos ⟨rfl, rfl⟩]
  have e19 : zI (wI (wG (wI (wI (wO y3 (b 18) 0 (some a)) (b 19) 0 (-1)) (b 20) 0 (-1)) (b 21) 0 (lOr (lOr (lShl 1 0) 0) 0)) (b 3) 4 1) (b 19) 0 = -1 := by
    rw [zI_wI, if_neg (fun w => cNe c4 rfl rfl rfl w.1), zI_wG, zI_wI, if_neg (fun w => cNe c4 rfl rfl rfl w.1), zI_wI, if_pos ⟨rfl, rfl⟩]
  have e20 : zI (wI (wG (wI (wI (wO y3 (b 18) 0 (some a)) (b 19) 0 (-1)) (b 20) 0 (-1)) (b 21) 0 (lOr (lOr (lShl 1 0) 0) 0)) (b 3) 4 1) (b 20) 0 = -1 := by
    rw [zI_wI, if_neg (fun w => cNe c4 rfl rfl rfl w.1), zI_wG, zI_wI, if_pos ⟨rfl, rfl⟩]
  have e21 : zG (wI (wG (wI (wI (wO y3 (b 18) 0 (some a)) (b 19) 0 (-1)) (b 20) 0 (-1)) (b 21) 0 (lOr (lOr (lShl 1 0) 0) 0)) (b 3) 4 1) (b 21) 0 = ancB (fun _ => -1) (fun _ => -1) 1 0 := by
    rw [zG_wI, zG_wG, if_pos ⟨rfl, rfl⟩, ancB, if_neg (by decide)]; rfl
  have e3 : zI (wI (wG (wI (wI (wO y3 (b 18) 0 (some a)) (b 19) 0 (-1)) (b 20) 0 (-1)) (b 21) 0 (lOr (lOr (lShl 1 0) 0) 0)) (b 3) 4 1) (b 3) 4 = 1 := by
    rw [zI_wI, if_pos ⟨rfl, rfl⟩]
  generalize wI (wG (wI (wI (wO y3 (b 18) 0 (some a)) (b 19) 0 (-1)) (b 20) 0 (-1)) (b 21) 0 (lOr (lOr (lShl 1 0) 0) 0)) (b 3) 4 1 = y8 at *
  clear c4 c5 c6 i4 i4' i5 i6 f4
  have nb : ∀ (t : Nat) (L : WR) (i : Int), zK z t = 0 → ¬ WB b L t i := fun t L i ht => WB_new h.1 ht
  have k3 : ∀ t, zK y3 t ≠ 0 → zK y8 t = zK y3 t := fun t ht => (g3.1 t ht).1
  have Sp8 : Shp y8 a ra ca x 8 6 := Shp_fr Sp g3 (nb a _ _ ha) (nb a _ _ ha) (nb a _ _ ha)
  have kr3 : zK y3 ra ≠ 0 := by rw [Sp.2.2.2.2.1]; decide
  have kc3 : zK y3 ca ≠ 0 := by rw [Sp.2.2.2.2.2.1]; decide
  have kx3 : zK y3 x ≠ 0 := by rw [Sp.2.2.2.2.2.2.1]; decide
  have ka3 : zK y3 a ≠ 0 := by rw [Sp.1]; decide
  have r8 : ∀ i, 0 ≤ i → i < 8 → zI y8 ra i = i + 1 := fun i i0 i1 => (g3.2 ra i kr3 (nb ra _ _ zra)).1.trans (r3 i i0 i1)
  have c8 : ∀ i, 0 ≤ i → i < 6 → zI y8 ca i = i + 1 := fun i i0 i1 => (g3.2 ca i kc3 (nb ca _ _ zca)).1.trans (c3' i i0 i1)
  have x8 : ∀ i, zO y8 x i = none := fun i => (g3.2 x i kx3 (nb x _ _ zx)).2.2.trans (cl i)
  have v8 : zO y8 a 3 = none := (g3.2 a 3 ka3 (nb a _ _ ha)).2.2.trans v3
  have C8 : CWz y8 b := CWz_fr h.1 (WB_L f8) (by decide)
  clear g3 k3 kr3 kc3 kx3 ka3 r3 c3' cl v3 Sp f3 c3
  unfold F_X11_init_162
  refine ⟨a, rfl, Sp8.1, 2, 52, by omega, by omega, ?_⟩
  refine k_twin Sp8 (fun i i0 i1 v hv => by rw [x8 i] at hv; cases hv) (by decide) (by decide) (fun q x2 y9 nw ex => ?_)
  obtain ⟨hq, hx2, qx, f9, S9, n3, -⟩ := nw
  have C9 : CWz y9 b := CWz_n C8 f9
  refine ⟨cK C9 0 rfl rfl, ?_⟩
  rintro _ rfl
  have f10 : FrZ (WB b [(0, some 11)]) y8 (wO y9 (b 0) 11 (some q)) := FrZ_wO (FrZ_mono f9 (fun _ _ _ w => w.elim)) (Or.inl (WB_i (by decide) (by decide)))
  have C10 : CWz (wO y9 (b 0) 11 (some q)) b := CWz_fr C8 (WB_L f10) (by decide)
  have e9 : zI (wO y9 (b 0) 11 (some q)) (b 9) 0 = 0 := by
    rw [(bB C8 f10 (R := [(9, none)]) (by decide) (by decide) (wHas_a (by decide))).1, (bB h.1 f8 (R := [(9, none)]) (by decide) (by decide) (wHas_a (by decide))).1]
    exact (h.2.1 9 (by decide) (by decide) 0 rfl (by decide)).1
  refine o_bran C10 e9 (fun y f11 e11 => p y a q ra ca x x2 ?_)
  have q9 : zK y9 q = 7 := S9.1
  have qb : ∀ k, k < 35 → q ≠ b k := fun k hk e => kbz C8 hk (by rw [← e]; exact hq)
  have f9y : FrZ (WB b [(0, some 11), (9, none)]) y9 y := FrZ_t2 (FrZ_wO FrZ_rf (Or.inl (WB_i (by decide) (by decide)))) f11 (fun _ _ _ w => WB_up (by decide) w)
  have f8y : FrZ (WB b [(0, some 11), (9, none)]) y8 y := FrZ_tr (FrZ_mono f9 (fun _ _ _ w => w.elim)) f9y
  have zq : zK z q = 0 := new_of f8 hq
  have zx2 : zK z x2 = 0 := new_of f8 hx2
  have aq : a ≠ q := fun e => by rw [← e, Sp8.1] at hq; cases hq
  refine ⟨FrZ_tr (FrZ_mono f8 (fun _ _ _ w => WB_up (by decide) w)) (FrZ_mono f8y (fun _ _ _ w => WB_up (by decide) w)), ⟨Shp_fr Sp8 f8y (nb a _ _ ha) (nb a _ _ ha) (nb a _ _ ha), Shp_fr S9 f9y (nb q _ _ zq) (nb q _ _ zq) (nb q _ _ zq)⟩, ⟨⟨ha, zq, aq⟩, zra, zca, zx, zx2⟩, ⟨?_, ?_⟩, ⟨fun i i0 i1 => ?_, fun i i0 i1 => ?_, fun i i0 i1 => ⟨?_, ?_⟩⟩, ⟨?_, ?_, ?_, ?_, ?_, ?_⟩, e11⟩
  · exact (f8y.2 a 3 (by rw [Sp8.1]; decide) (nb a _ _ ha)).2.2.trans v8
  · exact (f9y.2 q 3 (by rw [q9]; decide) (nb q _ _ zq)).2.2.trans n3
  · exact (f8y.2 ra i (by rw [Sp8.2.2.2.2.1]; decide) (nb ra _ _ zra)).1.trans (r8 i i0 i1)
  · exact (f8y.2 ca i (by rw [Sp8.2.2.2.2.2.1]; decide) (nb ca _ _ zca)).1.trans (c8 i i0 i1)
  · exact (f8y.2 x i (by rw [Sp8.2.2.2.2.2.2.1]; decide) (nb x _ _ zx)).2.2.trans (x8 i)
  · exact (f9y.2 x2 i (by rw [S9.2.2.2.2.2.2.1]; decide) (nb x2 _ _ zx2)).2.2.trans ((ex i i0 i1).trans (x8 i))
  · exact (bB C8 f8y (R := [(18, none)]) (by decide) (by decide) (wHas_a (by decide))).2.2.trans e18
  · exact (bB C8 f8y (R := [(19, none)]) (by decide) (by decide) (wHas_a (by decide))).1.trans e19
  · exact (bB C8 f8y (R := [(20, none)]) (by decide) (by decide) (wHas_a (by decide))).1.trans e20
  · exact (bB C8 f8y (R := [(21, none)]) (by decide) (by decide) (wHas_a (by decide))).2.1.trans e21
  · exact (bB C8 f8y (R := [(3, some 4)]) (by decide) (by decide) (wHas_i (by decide))).1.trans e3
  · rw [(bB C10 f11 (R := [(0, some 11)]) (by decide) (by decide) (wHas_i (by decide))).2.2, zO_wO, if_pos ⟨rfl, rfl⟩]
