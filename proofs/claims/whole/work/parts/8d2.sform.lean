/-! ===== a formula, of the system ===== -/
theorem PrtC_J {z : Z} {J J2 : Nat → Prop} {a : Nat} {p : Prt} (hJ : ∀ x, J x → J2 x) (h : PrtC z J a p) : PrtC z J2 a p := by
  obtain ⟨g1, g2, g3, g4, g5, g6⟩ := h
  refine ⟨hJ a g1, g2, g3, g4, ?_, g6⟩
  revert g5
  cases p.2.2.1 with
  | none => exact id
  | some l => rintro ⟨v, v1, v2⟩; exact ⟨v, v1, LitC_J hJ v2⟩
theorem o_bld {t : Tx} {b : Nat → Nat} {z0 : Z} {I J : Nat → Prop} {y : Z} {e x : Int} {ps : List Prt} {c s : Nat} {P : Option Nat → Z → Prop} (C : TxC t z0 b) (R : OkC b z0 I J y e ps (0, x)) (hl : ps.length ≤ 60) (hc : 2 ≤ c) (hs : 63 ≤ s) (h : ∀ a y2 J2, ContC y2 J2 (some a) (some (5, (0, 0, []), ps)) → PcF b z0 I J2 y2 → zI y2 (b 1) 4 = 0 → zI y2 (b 1) 5 = -1 → P (some a) y2) : F_X5_formula_84 (b 1) y c s P := by
  have cy := (TxC_o C R).1
  unfold F_X5_formula_84
  refine ⟨cK cy 1 rfl rfl, ?_⟩
  rw [if_pos R.2.1.1, R.2.2.2.1.2]
  refine ⟨by omega, by omega, by omega, by omega, fun pa hp z1 e1 => ?_⟩
  subst e1
  obtain ⟨np, npj⟩ := fr_0 R hp
  have f1 : FrZ (fun x' _ => x' = pa) y (nZ y pa 20 (ps.length : Int)) := FrZ_nZ FrZ_rf hp
  have R1 := OkC_fr C.1 R f1 (fun x' i hx => by rw [hx]; exact ⟨np, npj⟩)
  unfold F_X5_formula_103
  refine lp_I (S := Int × Z) (fun q => (0 ≤ q.1 ∧ q.1 ≤ (ps.length : Int)) ∧ OkC b z0 I J q.2 e ps (0, x) ∧ FrZ (fun x' _ => x' = pa) y q.2 ∧ zK q.2 pa = 20 ∧ zN q.2 pa = (ps.length : Int) ∧ ∀ i : Nat, (i : Int) < q.1 → zO q.2 pa i = zO y (b 12) i) (fun q => ((ps.length : Int) - q.1).toNat) ?_ (0, nZ y pa 20 (ps.length : Int)) ⟨⟨Int.le_refl 0, by show (0 : Int) ≤ _; omega⟩, R1, f1, by rw [zK_nZ, if_pos rfl], by rw [zN_nZ, if_pos rfl], fun i hi => by have hi : (i : Int) < 0 := hi; omega⟩
  rintro G ⟨k, w'⟩ ⟨⟨k0, k1⟩, Rw, fw, kw, nw, hw⟩ ih
  simp only at k0 k1 Rw fw kw nw hw
  have cw := (TxC_o C Rw).1
  have npb : b 12 ≠ pa := fun e => (ckz_k 12 (by decide)).2.2 (by rw [← (C.1.1 12 (by decide)).1, e]; exact np)
  have kb12 : zK y (b 12) ≠ 0 := by rw [(cy.1 12 (by decide)).1]; exact (ckz_k 12 (by decide)).2.2
  have o12 : ∀ i, zO w' (b 12) i = zO y (b 12) i := fun i => (fw.2 (b 12) i kb12 npb).2.2
  unfold L_X5_formula_103
  dsimp only
  refine ⟨pa, rfl, kw, ?_⟩
  rw [nw]
  by_cases ck : (ps.length : Int) ≤ k
  · rw [if_pos ck]
    show (1 ≤ c - 1 ∧ 3 ≤ s - Int.toNat (ps.length : Int) ∧ _)
    refine ⟨by omega, by omega, fun a ha z1 e1 => ?_⟩
    subst e1
    obtain ⟨na, naj⟩ := fr_0 Rw ha
    have hne : a ≠ pa := fun e => by rw [e, kw] at ha; cases ha
    unfold F_X1_init
    refine ⟨by rw [zK_nZ, if_pos rfl], ?_⟩
    rintro _ rfl _ rfl _ rfl
    have f2 : FrZ (fun x' _ => x' = a) w' (wO (wO (wI (nZ w' a 2 0) a 0 5) a 1 none) a 2 (some pa)) := FrZ_wO (FrZ_wO (FrZ_wI (FrZ_nZ FrZ_rf ha) (Or.inl rfl)) (Or.inl rfl)) (Or.inl rfl)
    have R2 := OkC_fr C.1 Rw f2 (fun x' i hx => by rw [hx]; exact ⟨na, naj⟩)
    have ka : zK (wO (wO (wI (nZ w' a 2 0) a 0 5) a 1 none) a 2 (some pa)) a = 2 := by simp [zK_wO, zK_wI, zK_nZ]
    have i0 : zI (wO (wO (wI (nZ w' a 2 0) a 0 5) a 1 none) a 2 (some pa)) a 0 = 5 := by simp [zI_wO, zI_wI]
    have o1 : zO (wO (wO (wI (nZ w' a 2 0) a 0 5) a 1 none) a 2 (some pa)) a 1 = none := by simp [zO_wO]
    have o2 : zO (wO (wO (wI (nZ w' a 2 0) a 0 5) a 1 none) a 2 (some pa)) a 2 = some pa := by simp [zO_wO]
    generalize wO (wO (wI (nZ w' a 2 0) a 0 5) a 1 none) a 2 (some pa) = v at f2 R2 ka i0 o1 o2
    have kp0 : zK w' pa ≠ 0 := by rw [kw]; decide
    have kpv : zK v pa = 20 := (f2.1 pa kp0).1.trans kw
    have npv : zN v pa = (ps.length : Int) := (f2.1 pa kp0).2.trans nw
    have opv : ∀ i, zO v pa i = zO w' pa i := fun i => (f2.2 pa i kp0 (fun q => hne q.symm)).2.2
    have ob : ∀ i, zO v (b 12) i = zO w' (b 12) i := by
      intro i
      have kb : zK w' (b 12) ≠ 0 := by rw [(cw.1 12 (by decide)).1]; exact (ckz_k 12 (by decide)).2.2
      exact (f2.2 (b 12) i kb (fun q => (ckz_k 12 (by decide)).2.2 (by rw [← (C.1.1 12 (by decide)).1, q]; exact na))).2.2
    refine h a v (fun x' => J x' ∨ x' = pa ∨ x' = a) ?_ ⟨R2.1.1, ⟨fun x' ix => Or.inl (R2.1.2.1.1 x' ix), fun x' hx => hx.elim (R2.1.2.1.2 x') (fun e => Or.inr (e.elim (fun e => by rw [e]; exact np) (fun e => by rw [e]; exact na)))⟩, ?_⟩ R2.2.1.1 R2.2.1.2
    · refine ⟨a, pa, rfl, Or.inr (Or.inr rfl), ka, i0, o2, fun _ => Or.inr (Or.inl rfl), kpv, npv, fun i hi => ?_, ?_⟩
      · obtain ⟨q, g1, g2, g3, g4, g5⟩ := R2.2.2.2.2 i hi
        refine ⟨q, ?_, PrtC_J (fun x' jx => Or.inl jx) (g5 rfl)⟩
        rw [opv, hw i (by omega), ← o12, ← ob]; exact g1
      · rw [if_pos rfl]; exact ⟨o1, rfl⟩
    · intro x' hx
      rcases hx with jx | e | e
      · exact R2.1.2.2 x' jx
      · rw [e]; exact ⟨by rw [kpv]; decide, by rw [kpv]; decide, by rw [kpv]; decide, fun k hk e2 => (ckz_k k hk).2.2 (by rw [← (C.1.1 k hk).1, ← e2]; exact np)⟩
      · rw [e]; exact ⟨by rw [ka]; decide, by rw [ka]; decide, by rw [ka]; decide, fun k hk e2 => (ckz_k k hk).2.2 (by rw [← (C.1.1 k hk).1, ← e2]; exact na)⟩
  · rw [if_neg ck]
    refine ⟨cK cw 1 rfl rfl, b 12, cO cw 1 1 12 (by decide), cK cw 12 rfl rfl, k0, by rw [cN cw 12 (c := 400) rfl rfl]; omega, k0, by omega, ?_, ?_⟩
    · intro v hv
      obtain ⟨q, g1, g2, g3, -⟩ := Rw.2.2.2.2 k.toNat (by omega)
      rw [Int.toNat_of_nonneg k0, hv] at g1
      cases g1; exact g3
    · rintro _ rfl
      rw [w32e (by omega) (by omega)]
      have f2 : FrZ (fun x' _ => x' = pa) w' (wO w' pa k (zO w' (b 12) k)) := FrZ_wO FrZ_rf (Or.inl rfl)
      refine ih (k + 1, _) ⟨⟨by show 0 ≤ k + 1; omega, by show k + 1 ≤ _; omega⟩, OkC_fr C.1 Rw f2 (fun x' i hx => by rw [hx]; exact ⟨np, npj⟩), FrZ_tr fw f2, kw, nw, fun i hi => ?_⟩ (by show ((ps.length : Int) - (k + 1)).toNat < ((ps.length : Int) - k).toNat; omega)
      have hi : (i : Int) < k + 1 := hi
      show zO (wO w' pa k (zO w' (b 12) k)) pa i = _
      rw [zO_wO]
      by_cases ei : (i : Int) = k
      · rw [if_pos ⟨rfl, ei⟩, ei]; exact o12 k
      · rw [if_neg (fun q => ei q.2)]; exact hw i (by omega)
theorem o_form {t : Tx} {S : SS} {b : Nat → Nat} {I : Nat → Prop} {z : Z} {a : Int} {c s : Nat} {P : Option Nat → Z → Prop} (E : EnC t S b I z) (hI : ∀ v, isShP v S → IdS (shOf v S)) (h4 : zI z (b 1) 4 = 0) (h5 : zI z (b 1) 5 = -1) (a0 : 0 ≤ a) (a1 : a < t.2.1) (hc : 3 * t.2.1 + 5 ≤ (c : Int)) (hs : 14 * t.2.1 + 77 ≤ (s : Int)) (hf : ∀ e y, pForm t S a = .inl e → FlC t b z I y e.1 e.2 → P none y) (hk : ∀ ps q y J, pForm t S a = .inr ps → ContC y J (some q) (some (5, (0, 0, []), ps)) → PcF b z I J y → zI y (b 1) 4 = 0 → zI y (b 1) 5 = -1 → P (some q) y) : F_X5_formula (b 1) a z c s P := by
  have C := E.1
  have b3 := C.2.2.1
  have n0 : 0 ≤ S.2.1.1 := by have := E.2.2.2.1.2; omega
  obtain ⟨gd, po⟩ := pRead_g (t := t) (a := a) hI n0 a0 a1
  have kb := skp_b (t := t) (k := a + 1) (by omega) (by omega)
  unfold F_X5_formula
  refine ⟨cK C.1 1 rfl rfl, ?_⟩
  rw [w32e (x := a + 1) (by omega) (by omega)]
  rintro _ rfl _ rfl _ rfl
  have f : FrZ (WB b wPs) z (wI (wI (wI z (b 1) 6 0) (b 1) 10 0) (b 1) 9 (a + 1)) := FrZ_wI (FrZ_wI (FrZ_wI FrZ_rf (Or.inl (WB_i (by decide) (by decide)))) (Or.inl (WB_i (by decide) (by decide)))) (Or.inl (WB_i (by decide) (by decide)))
  have R0 : OkC b z I I (wI (wI (wI z (b 1) 6 0) (b 1) 10 0) (b 1) 9 (a + 1)) (a + 1) [] (0, 0) := by
    refine ⟨⟨f, GrI_rf, Frz_fr E.2.2.2.2.1 f⟩, ⟨by simp [zI_wI]; exact h4, by simp [zI_wI]; exact h5⟩, ⟨by simp [zI_wI], fun n => absurd rfl n⟩, ⟨by simp [zI_wI], by simp [zI_wI]⟩, fun i hi => by cases hi⟩
  generalize wI (wI (wI z (b 1) 6 0) (b 1) 10 0) (b 1) 9 (a + 1) = z1 at f R0
  refine ⟨(3 * (t.2.1 + 1)).toNat, (14 * (t.2.1 + 1)).toNat, by omega, by omega, 400, Nat.le_refl _, ?_⟩
  have pr : PrC t b z I z1 (skp t (a + 1), [], (0, 0)) := ⟨⟨I, a + 1, R0, rfl, by omega, by omega⟩, ⟨⟨by show 0 ≤ skp t _; omega, kb.2.1⟩, SpF_0⟩, by show ((0 : Nat) : Int) ≤ skp t (a + 1); omega⟩
  have rm : RmC (pRead t S a) t.2.1 (skp t (a + 1)) (3 * (t.2.1 + 1)).toNat (14 * (t.2.1 + 1)).toNat := by
    cases hr : pRead t S a with
    | inl e => exact ⟨by omega, by omega⟩
    | inr s' =>
      have q := (po s' hr).1.2.1.1
      exact ⟨by omega, by omega⟩
  refine (CRows E hI (4 * t.2.1 + 7).toNat).1 1 (by omega) (by omega) 0 (skp t (a + 1), [], (0, 0)) 400 ⟨by omega, by omega⟩ (by omega) gd z1 _ _ _ pr rm (fun y hy => ?_)
  replace hy : PoC t b z I (pRead t S a) y := hy
  generalize hc2 : c - (3 * (t.2.1 + 1)).toNat = c2
  generalize hs2 : s - (14 * (t.2.1 + 1)).toNat = s2
  have c22 : 2 ≤ c2 ∧ 63 ≤ s2 := by omega
  have f84 : ∀ e y2, pForm t S a = .inl e → FlC t b z I y2 e.1 e.2 → F_X5_formula_66 (b 1) y2 c2 s2 P := by
    intro e y2 he F
    have cy := (TxC_l C F).1
    have f4 := FlC_4 F
    have e84 : F_X5_formula_84 (b 1) y2 c2 s2 P := by
      unfold F_X5_formula_84
      refine ⟨cK cy 1 rfl rfl, ?_⟩
      rw [if_neg (by omega)]; exact hf e y2 he F
    unfold F_X5_formula_66
    refine ⟨cK cy 1 rfl rfl, ?_⟩
    split
    · exact e84
    · exact o_failF cy f4 e84
  have f47 : ∀ e y2, pForm t S a = .inl e → FlC t b z I y2 e.1 e.2 → F_X5_formula_47 (b 1) y2 c2 s2 P := by
    intro e y2 he F
    have cy := (TxC_l C F).1
    unfold F_X5_formula_47
    refine ⟨cK cy 1 rfl rfl, ?_⟩
    split
    · exact f84 e y2 he F
    · exact o_failF cy (FlC_4 F) (f84 e y2 he F)
  have flt : ∀ e, pForm t S a = .inl e → FlC t b z I y e.1 e.2 → (zK y (b 1) = 6 ∧ F_X5_skipBlanks (b 1) y (fun z_24 => (zK z_24 (b 1) = 6 ∧ (if zI z_24 (b 1) 8 ≤ zI z_24 (b 1) 9 then F_X5_formula_47 (b 1) z_24 c2 s2 P else F_X5_fail (b 1) 1 (zI z_24 (b 1) 9) z_24 (fun z_44 => F_X5_formula_47 (b 1) z_44 c2 s2 P))))) := by
    intro e he F
    have Cy := TxC_l C F
    obtain ⟨J4, g1, g2, g3, g4⟩ := id F
    refine ⟨cK Cy.1 1 rfl rfl, o_skip Cy rfl g3.1 g3.2 (fun y5 f5 y59 => ?_)⟩
    have kc := skp_b (t := t) g3.1 g3.2
    have F5 := FlC_sc C.1 F f5 (by rw [y59]; omega)
    have C5 := TxC_l C F5
    refine ⟨cK C5.1 1 rfl rfl, ?_⟩
    split
    · exact f47 e y5 he F5
    · exact o_failF C5.1 (FlC_4 F5) (f47 e y5 he F5)
  cases hr : pRead t S a with
  | inl e =>
    rw [hr] at hy
    exact flt e (by unfold pForm; rw [hr]) hy
  | inr s' =>
    rw [hr] at hy
    obtain ⟨q1, q2⟩ := po s' hr
    have q21 := q1.2.1.1
    have c1 := q1.2.2.1
    simp only [List.length_nil] at c1
    rcases hy with ⟨J, e, R, he, e0, e1⟩ | ⟨c58, F⟩
    · have Cy := TxC_o C R
      refine ⟨cK Cy.1 1 rfl rfl, o_skip Cy R.2.2.2.1.1 e0 e1 (fun y2 f2 y29 => ?_)⟩
      rw [he] at y29
      have R2 := OkC_sc (e' := s'.1) C.1 R f2 y29
      have C2 := TxC_o C R2
      refine ⟨cK C2.1 1 rfl rfl, ?_⟩
      rw [C2.2.1.2, y29]
      by_cases ce : s'.1 < t.2.1
      · have ep : pForm t S a = .inl (1, s'.1) := by unfold pForm; rw [hr]; exact if_pos ce
        rw [if_neg (by omega)]
        exact o_fail (t := t) C.1 R2 (by decide) ⟨by omega, q21⟩ (by omega) (fun x F => f47 (1, s'.1) x ep F)
      · rw [if_pos (by omega)]
        unfold F_X5_formula_47
        refine ⟨cK C2.1 1 rfl rfl, ?_⟩
        rw [R2.2.2.1.1]
        by_cases l0 : s'.2.2.1 = 0
        · rw [if_pos l0]
          unfold F_X5_formula_66
          refine ⟨cK C2.1 1 rfl rfl, ?_⟩
          rw [R2.2.2.2.1.2]
          by_cases c60 : 60 < s'.2.1.length
          · have ep : pForm t S a = .inl (5, t.2.2) := by unfold pForm; rw [hr]; simp only; rw [if_neg ce, if_neg (not_not_intro l0), if_pos c60]
            rw [if_neg (by omega), C2.2.1.1]
            refine o_fail (t := t) C.1 R2 (by decide) ⟨by omega, q21⟩ (by omega) (fun x F => ?_)
            have cx := (TxC_l C F).1
            have f4 := FlC_4 F
            unfold F_X5_formula_84
            refine ⟨cK cx 1 rfl rfl, ?_⟩
            rw [if_neg (by omega)]; exact hf (5, t.2.2) x ep F
          · have ep : pForm t S a = .inr s'.2.1 := by unfold pForm; rw [hr]; simp only; rw [if_neg ce, if_neg (not_not_intro l0), if_neg c60]
            rw [if_pos (by omega)]
            have e2 : s'.2.2 = (0, s'.2.2.2) := by rw [← l0]
            rw [e2] at R2
            exact o_bld C R2 (by omega) c22.1 c22.2 (fun q y3 J3 h1 h2 h3 h4 => hk s'.2.1 q y3 J3 ep h1 h2 h3 h4)
        · have ep : pForm t S a = .inl s'.2.2 := by unfold pForm; rw [hr]; simp only; rw [if_neg ce, if_pos l0]
          have lk := (lateK (t := t) hI n0 (4 * t.2.1 + 7).toNat).1 1 0 (skp t (a + 1), [], (0, 0)) s' (by show (0 : Int) ≤ 0; decide) hr
          rw [if_neg l0, R2.2.2.1.2 l0]
          exact o_fail (t := t) C.1 R2 (by omega) ⟨by omega, q21⟩ (by omega) (fun x F => f84 s'.2.2 x ep F)
    · have b1 := bt_in (t := t) (k := s'.1) (by omega)
      exact flt (1, s'.1) (by unfold pForm; rw [hr]; exact if_pos b1.2) F
