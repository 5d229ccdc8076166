/-! ===== the system's reader: a spot, an area ===== -/
theorem o_tfc {t : Tx} {b : Nat → Nat} {z0 : Z} {I J : Nat → Prop} {z : Z} {e0 op r c f e : Int} {ps : List Prt} {lt : Int × Int} {a : Nat} {P : Z → Prop} (C : TxC t z0 b) (R : OkC b z0 I J z e0 ps lt) (ha : zK z a = 0) (h13 : zI z (b 1) 13 = r) (h14 : zI z (b 1) 14 = c) (h15 : zI z (b 1) 15 = f) (h16 : zI z (b 1) 16 = e) (hf : 0 ≤ f ∧ f ≤ 3) (h : ∀ y, OkC b z0 I J y e ps lt → NpC y a op r c r c (5 * f) (-1) → (zK z0 a = 0 ∧ ¬ J a) → P y) : F_X4_init a op 0 none (nZ z a 5 0) (fun z13 => zK z13 (b 1) = 6 ∧ F_X5_takeFirstCorner (b 1) (some a) z13 P) := by
  have cz : CWz z b := (TxC_o C R).1
  obtain ⟨na, nj⟩ := fr_0 R ha
  have ne : b 1 ≠ a := fun e => (ckz_k 1 (by decide)).2.2 (by rw [← (cz.1 1 (by decide)).1, e]; exact ha)
  unfold F_X4_init
  refine ⟨by rw [zK_nZ, if_pos rfl], ?_⟩
  rintro _ rfl _ rfl _ rfl _ rfl
  have f1 : FrZ (fun x _ => x = a) z (wO (wI (wI (wI (nZ z a 5 0) a 8 (-1)) a 0 op) a 1 0) a 2 none) := FrZ_wO (FrZ_wI (FrZ_wI (FrZ_wI (FrZ_nZ FrZ_rf ha) (Or.inl rfl)) (Or.inl rfl)) (Or.inl rfl)) (Or.inl rfl)
  have k5 : zK (wO (wI (wI (wI (nZ z a 5 0) a 8 (-1)) a 0 op) a 1 0) a 2 none) a = 5 := by simp [zK_wO, zK_wI, zK_nZ]
  have i0 : zI (wO (wI (wI (wI (nZ z a 5 0) a 8 (-1)) a 0 op) a 1 0) a 2 none) a 0 = op := by simp [zI_wO, zI_wI, zI_nZ]
  have i1 : zI (wO (wI (wI (wI (nZ z a 5 0) a 8 (-1)) a 0 op) a 1 0) a 2 none) a 1 = 0 := by simp [zI_wO, zI_wI, zI_nZ]
  have i8 : zI (wO (wI (wI (wI (nZ z a 5 0) a 8 (-1)) a 0 op) a 1 0) a 2 none) a 8 = -1 := by simp [zI_wO, zI_wI, zI_nZ]
  have o2 : zO (wO (wI (wI (wI (nZ z a 5 0) a 8 (-1)) a 0 op) a 1 0) a 2 none) a 2 = none := by simp [zO_wO]
  generalize wO (wI (wI (wI (nZ z a 5 0) a 8 (-1)) a 0 op) a 1 0) a 2 none = y at f1 k5 i0 i1 i8 o2
  have kb : zK z (b 1) ≠ 0 := by rw [(cz.1 1 (by decide)).1]; exact (ckz_k 1 (by decide)).2.2
  have eb : ∀ i, zI y (b 1) i = zI z (b 1) i := fun i => (f1.2 (b 1) i kb ne).1
  have R1 := OkC_fr C.1 R f1 (fun x i hx => by rw [hx]; exact ⟨na, nj⟩)
  have cy : CWz y b := (TxC_o C R1).1
  unfold F_X5_takeFirstCorner
  refine ⟨cK cy 1 rfl rfl, cK cy 1 rfl rfl, a, rfl, k5, ?_⟩
  rintro _ rfl
  refine ⟨a, rfl, k5, ?_⟩
  rintro _ rfl
  refine ⟨a, rfl, k5, ?_⟩
  rintro _ rfl
  refine ⟨a, rfl, k5, ?_⟩
  rintro _ rfl
  refine ⟨a, rfl, k5, ?_⟩
  rintro _ rfl
  have w1 : ∀ (w' : Z) i x j, zI (wI w' a i x) (b 1) j = zI w' (b 1) j := fun w' i x j => by rw [zI_wI, if_neg (fun q => ne q.1)]
  simp only [w1, eb, h13, h14, h15, h16, fx_or2 hf hf]
  rintro _ rfl
  have f2 : FrZ (fun x _ => x = a) y (wI (wI (wI (wI (wI y a 3 r) a 4 c) a 5 r) a 6 c) a 7 (f + 4 * f)) := FrZ_wI (FrZ_wI (FrZ_wI (FrZ_wI (FrZ_wI FrZ_rf (Or.inl rfl)) (Or.inl rfl)) (Or.inl rfl)) (Or.inl rfl)) (Or.inl rfl)
  have R2 := OkC_fr C.1 R1 f2 (fun x i hx => by rw [hx]; exact ⟨na, nj⟩)
  have N2 : NpC (wI (wI (wI (wI (wI y a 3 r) a 4 c) a 5 r) a 6 c) a 7 (f + 4 * f)) a op r c r c (5 * f) (-1) := by
    refine ⟨k5, ?_, ?_, o2, ⟨?_, ?_, ?_, ?_⟩, ?_, ?_⟩
    · simp [zI_wI]; exact i0
    · simp [zI_wI]; exact i1
    · simp [zI_wI]
    · simp [zI_wI]
    · simp [zI_wI]
    · simp [zI_wI]
    · rw [zI_wI, if_pos ⟨rfl, rfl⟩]; omega
    · simp [zI_wI]; exact i8
  generalize wI (wI (wI (wI (wI y a 3 r) a 4 c) a 5 r) a 6 c) a 7 (f + 4 * f) = x at f2 R2 N2
  have f3 : FrZ (WB b wSc) x (wI x (b 1) 9 e) := FrZ_wI FrZ_rf (Or.inl (WB_i (by decide) (by decide)))
  refine h _ (OkC_sc (e' := e) C.1 R2 f3 (by rw [zI_wI, if_pos ⟨rfl, rfl⟩])) (NpC_fr f3 (fun i ⟨t, t1, t2, t3, t4⟩ => ?_) N2) ⟨na, nj⟩
  exact (ckz_k t.1 t2).2.2 (by rw [← (cz.1 t.1 t2).1, ← t3]; exact ha)
theorem o_spot {t : Tx} {S : SS} {b : Nat → Nat} {z0 : Z} {I J : Nat → Prop} {z : Z} {st : PS} {c' s' : Nat} {P : Z → Prop} (E : EnC t S b I z0) (R : OkC b z0 I J z st.1 st.2.1 st.2.2) (hlen : (st.2.1.length : Int) ≤ st.1) (hc : crP t st.1) (h13 : zI z (b 1) 13 = crR t st.1) (h14 : zI z (b 1) 14 = crC t st.1) (h15 : zI z (b 1) 15 = crF t st.1) (h16 : zI z (b 1) 16 = crE t st.1) (rm : 1 ≤ c' ∧ 9 ≤ s') (h : ∀ y, PoC t b z0 I (pSpot t S st) y → P y) : F_X5_spot (b 1) z c' s' P := by
  have C := E.1
  have b3 := C.2.2.1
  have cb := crP_b hc
  have cz : CWz z b := (TxC_o C R).1
  unfold F_X5_spot
  refine ⟨cK cz 1 rfl rfl, rm.1, rm.2, fun a ha z1 e1 => ?_⟩
  subst e1
  rw [R.2.2.2.1.1]
  refine o_tfc C R ha h13 h14 h15 h16 (crF_b t st.1) (fun y Ry Ny nq => ?_)
  have Cy := TxC_o C Ry
  unfold pSpot at h
  refine ⟨cK Cy.1 1 rfl rfl, ?_⟩
  rw [Ry.2.2.2.1.1]
  refine o_byt Cy ?_
  by_cases c58 : bt t (crE t st.1) = 58
  · rw [if_pos ((sb_i Cy (by decide) (by decide)).mpr c58)]
    refine o_fail (t := t) C.1 Ry (by decide) ⟨by omega, cb.2.2.1⟩ (by omega) (fun x F => h x ?_)
    have ev : vrP t (crE t st.1) = .inr (-1, crE t st.1) := by unfold vrP; rw [if_neg (by omega)]
    rw [ev]
    have sk : skp t (crE t st.1) = crE t st.1 := skp_0 (by omega)
    show PoC t b z0 I (.inr (plcA S 16 (-1) _ _ _ _ _ _ (skp t (crE t st.1)) st)) x
    have e1 : (plcA S 16 (-1) (crR t st.1) (crC t st.1) (crR t st.1) (crC t st.1) (5 * crF t st.1) st.1 (skp t (crE t st.1)) st).1 = crE t st.1 := by unfold plcA; split <;> exact sk
    refine Or.inr ⟨by rw [e1]; exact c58, ?_⟩
    rw [e1]; exact F
  · rw [if_neg (fun q => c58 ((sb_i Cy (by decide) (by decide)).mp q))]
    refine o_ver C Ry (by omega) nq Ny (by omega) cb.2.2.1 (fun p x hv F Nx => ?_) (fun v e x hv Rx Nx => ?_)
    · rw [hv] at h
      refine ⟨cK (TxC_l C F).1 1 rfl rfl, o_settleF E F nq.1 Nx (fun w' Fw => h w' Fw)⟩
    · rw [hv] at h
      have vb := vrP_b (by omega) cb.2.2.1 hv
      refine ⟨cK (TxC_o C Rx).1 1 rfl rfl, o_settle E Rx (by omega) nq Nx vb.1.1 (fun th y2 J2 R2 => h y2 ?_) (fun th y2 J2 R2 => h y2 ?_)⟩
      · show PoC t b z0 I (.inr (plcA S 16 v _ _ _ _ _ _ (skp t e) st)) y2
        have e1 : plcA S 16 v (crR t st.1) (crC t st.1) (crR t st.1) (crC t st.1) (5 * crF t st.1) st.1 (skp t e) st = (skp t e, st.2.1 ++ [plcP S 16 v (crR t st.1) (crC t st.1) (crR t st.1) (crC t st.1) (5 * crF t st.1)], st.2.2) := by unfold plcA; rw [if_pos th]
        rw [e1]
        exact Or.inl ⟨J2, e, R2, rfl, by omega, vb.2.2.1⟩
      · show PoC t b z0 I (.inr (plcA S 16 v _ _ _ _ _ _ (skp t e) st)) y2
        have e1 : plcA S 16 v (crR t st.1) (crC t st.1) (crR t st.1) (crC t st.1) (5 * crF t st.1) st.1 (skp t e) st = (skp t e, st.2.1 ++ [leafP 16], ltU 3 st.1 st.2.2) := by unfold plcA; rw [if_neg th]
        rw [e1]
        exact Or.inl ⟨J2, e, R2, rfl, by omega, vb.2.2.1⟩
theorem and3 : ∀ f : Nat, f ≤ 3 → bAnd (5 * (f : Int)) 3 = (f : Int) := by
  intro f hf
  have h1 : f = 0 ∨ f = 1 ∨ f = 2 ∨ f = 3 := by omega
  rcases h1 with rfl | rfl | rfl | rfl <;> decide
theorem o_area {t : Tx} {S : SS} {b : Nat → Nat} {z0 : Z} {I J : Nat → Prop} {z : Z} {st : PS} {c' s' : Nat} {P : Z → Prop} (E : EnC t S b I z0) (R : OkC b z0 I J z st.1 st.2.1 st.2.2) (hlen : (st.2.1.length : Int) ≤ st.1) (hc : crP t st.1) (h58 : bt t (crE t st.1) = 58) (h13 : zI z (b 1) 13 = crR t st.1) (h14 : zI z (b 1) 14 = crC t st.1) (h15 : zI z (b 1) 15 = crF t st.1) (h16 : zI z (b 1) 16 = crE t st.1) (rm : 1 ≤ c' ∧ 9 ≤ s') (h : ∀ y, PoC t b z0 I (pArea t S st) y → P y) : F_X5_area (b 1) z c' s' P := by
  have C := E.1
  have b3 := C.2.2.1
  have cb := crP_b hc
  have cf := crF_b t st.1
  have cz : CWz z b := (TxC_o C R).1
  have b58 := (bt_in (t := t) (k := crE t st.1) (by omega)).2
  unfold F_X5_area
  refine ⟨cK cz 1 rfl rfl, rm.1, rm.2, fun a ha z1 e1 => ?_⟩
  subst e1
  rw [R.2.2.2.1.1]
  refine o_tfc C R ha h13 h14 h15 h16 cf (fun y Ry Ny nq => ?_)
  have Cy := TxC_o C Ry
  have nk : ∀ k, k < 35 → b k ≠ a := fun k hk e => (ckz_k k hk).2.2 (by rw [← (C.1.1 k hk).1, e]; exact nq.1)
  have nW : ∀ (L : WR) i, ¬ WB b L a i := fun L i ⟨t, t1, t2, t3, t4⟩ => nk t.1 t2 t3.symm
  unfold pArea at h
  refine ⟨cK Cy.1 1 rfl rfl, ?_⟩
  rw [Ry.2.2.2.1.1, w32e (x := crE t st.1 + 1) (by omega) (by omega)]
  rintro _ rfl
  have f1 : FrZ (WB b wSc) y (wI y (b 1) 9 (crE t st.1 + 1)) := FrZ_wI FrZ_rf (Or.inl (WB_i (by decide) (by decide)))
  have R1 := OkC_sc (e' := crE t st.1 + 1) C.1 Ry f1 (by rw [zI_wI, if_pos ⟨rfl, rfl⟩])
  have N1 := NpC_fr f1 (nW _) Ny
  generalize wI y (b 1) 9 (crE t st.1 + 1) = y1 at f1 R1 N1
  have C1 := TxC_o C R1
  rw [R1.2.2.2.1.1]
  refine o_crn C1 (by omega) (by omega) (fun cr y2 f2 g13 g14 g15 g16 => ?_) (fun cr y2 f2 => ?_)
  · rw [if_neg (by decide)]
    rw [if_pos cr] at h
    have cb2 := crP_b cr
    have cf2 := crF_b t (crE t st.1 + 1)
    have c1z := C1.1
    have R2 := OkC_sc (e' := crE t st.1 + 1) C.1 R1 (WB_s (by decide) f2) ((bB c1z f2 (R := [(1, some 9)]) (by decide) (by decide) (wHas_i (by decide))).1.trans R1.2.2.2.1.1)
    have N2 := NpC_fr f2 (nW _) N1
    have c2z : CWz y2 b := (TxC_o C R2).1
    have ne := nk 1 (by decide)
    have w1 : ∀ (w' : Z) i x j, zI (wI w' a i x) (b 1) j = zI w' (b 1) j := fun w' i x j => by rw [zI_wI, if_neg (fun q => ne q.1)]
    refine ⟨cK c2z 1 rfl rfl, N2.1, ?_⟩
    rintro _ rfl _ rfl _ rfl
    obtain ⟨n1, n2, n3, n4, ⟨n5, n6, n7, n8⟩, n9, n10⟩ := id N2
    have e7 : zI (wI (wI y2 a 5 (crR t (crE t st.1 + 1))) a 6 (crC t (crE t st.1 + 1))) a 7 = 5 * crF t st.1 := by rw [zI_wI, if_neg (by omega), zI_wI, if_neg (by omega)]; exact n9
    have a3 := and3 (crF t st.1).toNat (by omega)
    rw [Int.toNat_of_nonneg cf.1] at a3
    simp only [w1, g13, g14, g15, g16, e7, a3, fx_or2 cf cf2]
    rintro _ rfl
    have f3 : FrZ (fun x _ => x = a) y2 (wI (wI (wI y2 a 5 (crR t (crE t st.1 + 1))) a 6 (crC t (crE t st.1 + 1))) a 7 (crF t st.1 + 4 * crF t (crE t st.1 + 1))) := FrZ_wI (FrZ_wI (FrZ_wI FrZ_rf (Or.inl rfl)) (Or.inl rfl)) (Or.inl rfl)
    have R3 := OkC_fr C.1 R2 f3 (fun x i hx => by rw [hx]; exact nq)
    have N3 : NpC (wI (wI (wI y2 a 5 (crR t (crE t st.1 + 1))) a 6 (crC t (crE t st.1 + 1))) a 7 (crF t st.1 + 4 * crF t (crE t st.1 + 1))) a 17 (crR t st.1) (crC t st.1) (crR t (crE t st.1 + 1)) (crC t (crE t st.1 + 1)) (crF t st.1 + 4 * crF t (crE t st.1 + 1)) (-1) := by
      refine ⟨n1, ?_, ?_, n4, ⟨?_, ?_, ?_, ?_⟩, ?_, ?_⟩
      · simp [zI_wI]; exact n2
      · simp [zI_wI]; exact n3
      · simp [zI_wI]; exact n5
      · simp [zI_wI]; exact n6
      · simp [zI_wI]
      · simp [zI_wI]
      · simp [zI_wI]
      · simp [zI_wI]; exact n10
    generalize wI (wI (wI y2 a 5 (crR t (crE t st.1 + 1))) a 6 (crC t (crE t st.1 + 1))) a 7 (crF t st.1 + 4 * crF t (crE t st.1 + 1)) = y3 at f3 R3 N3
    have f4 : FrZ (WB b wSc) y3 (wI y3 (b 1) 9 (crE t (crE t st.1 + 1))) := FrZ_wI FrZ_rf (Or.inl (WB_i (by decide) (by decide)))
    have R4 := OkC_sc (e' := crE t (crE t st.1 + 1)) C.1 R3 f4 (by rw [zI_wI, if_pos ⟨rfl, rfl⟩])
    have N4 := NpC_fr f4 (nW _) N3
    refine o_ver C R4 (by omega) nq N4 (by omega) cb2.2.2.1 (fun p x hv F Nx => ?_) (fun v e x hv Rx Nx => ?_)
    · rw [hv] at h
      refine ⟨cK (TxC_l C F).1 1 rfl rfl, o_settleF E F nq.1 Nx (fun w' Fw => h w' Fw)⟩
    · rw [hv] at h
      have vb := vrP_b (by omega) cb2.2.2.1 hv
      refine ⟨cK (TxC_o C Rx).1 1 rfl rfl, o_settle E Rx (by omega) nq Nx vb.1.1 (fun th y2 J2 R2 => h y2 ?_) (fun th y2 J2 R2 => h y2 ?_)⟩
      · show PoC t b z0 I (.inr (plcA S 17 v _ _ _ _ _ _ (skp t e) st)) y2
        have e1 : plcA S 17 v (crR t st.1) (crC t st.1) (crR t (crE t st.1 + 1)) (crC t (crE t st.1 + 1)) (crF t st.1 + 4 * crF t (crE t st.1 + 1)) st.1 (skp t e) st = (skp t e, st.2.1 ++ [plcP S 17 v (crR t st.1) (crC t st.1) (crR t (crE t st.1 + 1)) (crC t (crE t st.1 + 1)) (crF t st.1 + 4 * crF t (crE t st.1 + 1))], st.2.2) := by unfold plcA; rw [if_pos th]
        rw [e1]
        exact Or.inl ⟨J2, e, R2, rfl, by omega, vb.2.2.1⟩
      · show PoC t b z0 I (.inr (plcA S 17 v _ _ _ _ _ _ (skp t e) st)) y2
        have e1 : plcA S 17 v (crR t st.1) (crC t st.1) (crR t (crE t st.1 + 1)) (crC t (crE t st.1 + 1)) (crF t st.1 + 4 * crF t (crE t st.1 + 1)) st.1 (skp t e) st = (skp t e, st.2.1 ++ [leafP 17], ltU 3 st.1 st.2.2) := by unfold plcA; rw [if_neg th]
        rw [e1]
        exact Or.inl ⟨J2, e, R2, rfl, by omega, vb.2.2.1⟩
  · rw [if_pos rfl]
    rw [if_neg cr] at h
    have c1z := C1.1
    have e9 : zI y2 (b 1) 9 = crE t st.1 + 1 := (bB c1z f2 (R := [(1, some 9)]) (by decide) (by decide) (wHas_i (by decide))).1.trans R1.2.2.2.1.1
    have R2 := OkC_sc (e' := crE t st.1 + 1) C.1 R1 (WB_s (by decide) f2) e9
    refine ⟨cK (TxC_o C R2).1 1 rfl rfl, ?_⟩
    rw [e9]
    exact o_fail (t := t) C.1 R2 (by decide) ⟨by omega, by omega⟩ (by omega) (fun x F => h x F)
