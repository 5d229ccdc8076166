/-! ===== drop, sheet, conflict ===== -/
/-- no merge, no conflicts, no steps -/
def pBare (S : SS) : SS := (S.1, S.2.1, (S.2.2.1.1, S.2.2.1.2.1, -1, S.2.2.1.2.2.2), (S.2.2.2.1.1, 0, S.2.2.2.1.2.2.1, 0, S.2.2.2.1.2.2.2.2), (0, S.2.2.2.2.2))
def pDrop (S : SS) : Int × SS := (pHead S, setW (pBare S) (S.2.1.2.1 (pHead S)))
def wDr : WR := [(0, some 13), (5, some 2), (6, some 2), (6, some 3), (0, some 11), (0, some 12)]
theorem o_drop {z : Z} {b : Nat → Nat} {I : Nat → Prop} {S : SS} {c s : Nat} {P : Int → Z → Prop} (R : RC z b I S) (hc : 2 ≤ c) (hs : 324 ≤ s) (h : ∀ y J, GrI z I J → FrZ (WL z b wDr (wkT z b) no1) z y → RC y b J (pDrop S).2 → WkN z y b → P (pDrop S).1 y) : F_X11_drop (b 0) z c s P := by
  obtain ⟨cw, r, ht, hl, hb, hk, hq⟩ := id R
  have hB := RC_Bd R
  have n05 : b 0 ≠ b 5 := cNe cw rfl rfl rfl
  have n06 : b 0 ≠ b 6 := cNe cw rfl rfl rfl
  have n56 : b 5 ≠ b 6 := cNe cw rfl rfl rfl
  unfold F_X11_drop F_X7_forget
  refine ⟨cK cw 0 rfl rfl, ?_⟩
  rintro _ rfl
  refine ⟨b 5, cO cw 0 4 5 (by decide), cK cw 5 rfl rfl, ?_⟩
  rintro _ rfl
  refine ⟨b 6, cO cw 0 5 6 (by decide), cK cw 6 rfl rfl, cK cw 6 rfl rfl, ?_⟩
  rintro _ rfl _ rfl
  generalize hz1 : wI (wI (wI (wI z (b 0) 13 (-1)) (b 5) 2 0) (b 6) 2 0) (b 6) 3 0 = z1
  have f1 : FrZ (WL z b wDr (wkT z b) no1) z z1 := by rw [← hz1]; exact FrZ_wI (FrZ_wI (FrZ_wI (FrZ_wI FrZ_rf (Or.inl (WL_i (by decide) (by decide)))) (Or.inl (WL_i (by decide) (by decide)))) (Or.inl (WL_i (by decide) (by decide)))) (Or.inl (WL_i (by decide) (by decide)))
  have f1' : FrZ (WL z b [(0, some 13), (5, some 2), (6, some 2), (6, some 3)] no1 no1) z z1 := by rw [← hz1]; exact FrZ_wI (FrZ_wI (FrZ_wI (FrZ_wI FrZ_rf (Or.inl (WL_i (by decide) (by decide)))) (Or.inl (WL_i (by decide) (by decide)))) (Or.inl (WL_i (by decide) (by decide)))) (Or.inl (WL_i (by decide) (by decide)))
  have e13 : zI z1 (b 0) 13 = -1 := by rw [← hz1, zI_wI, if_neg (fun w => n06 w.1), zI_wI, if_neg (fun w => n06 w.1), zI_wI, if_neg (fun w => n05 w.1), zI_wI, if_pos ⟨rfl, rfl⟩]
  have e52 : zI z1 (b 5) 2 = 0 := by rw [← hz1, zI_wI, if_neg (fun w => n56 w.1), zI_wI, if_neg (fun w => n56 w.1), zI_wI, if_pos ⟨rfl, rfl⟩]
  have e62 : zI z1 (b 6) 2 = 0 := by rw [← hz1, zI_wI, if_neg (by omega), zI_wI, if_pos ⟨rfl, rfl⟩]
  have e63 : zI z1 (b 6) 3 = 0 := by rw [← hz1, zI_wI, if_pos ⟨rfl, rfl⟩]
  have c1 := CWz_fr cw f1 (by decide)
  have sf : ∀ r s, ShO z I r s → ShO z1 I r s := fun _ _ q => ShO_fr f1 (WL_I r) (WL_7 cw) q
  have R1 : RC z1 b I (pBare S) := by
    refine ⟨c1, Frz_fr r f1, RCt_fr cw f1 (by decide) ht, RCl_fr cw r f1 (by decide) hl, ?_, ?_, ?_⟩
    · obtain ⟨g1, g2, g3, g4⟩ := hb
      have eb : ∀ k, zI z1 (b 9) k = zI z (b 9) k := fun k => (bI cw f1' (R := [(9, none)]) (by decide) (k := 9) (by decide) (i := k) (wHas_a (by decide))).1
      have e0 : ∀ k, wHas [(0, some 12), (0, some 14), (0, some 15), (0, some 16), (0, some 17)] 0 k → zI z1 (b 0) k = zI z (b 0) k := fun k hk => (bI cw f1' (R := [(0, some 12), (0, some 14), (0, some 15), (0, some 16), (0, some 17)]) (by decide) (k := 0) (by decide) (i := k) hk).1
      unfold RCb
      rw [e13, e0 12 (wHas_i (by decide)), e0 14 (wHas_i (by decide)), e0 15 (wHas_i (by decide)), e0 16 (wHas_i (by decide)), e0 17 (wHas_i (by decide))]
      exact ⟨fun k k0 k1 => by rw [eb k]; exact g1 k k0 k1, g2, ⟨rfl, by show (-1 : Int) ≤ -1; decide, by show (-1 : Int) < S.2.1.1; have := hB.2.1.1; omega⟩, g4⟩
    · obtain ⟨g1, g2, g3, g4⟩ := hk
      have e11 : zO z1 (b 0) 11 = zO z (b 0) 11 := (bI cw f1' (R := [(0, some 11)]) (by decide) (k := 0) (by decide) (i := 11) (wHas_i (by decide))).2.2
      refine ⟨by rw [e11]; exact sf _ _ g1, ⟨e62, e63, by show (0 : Int) ≤ 0; decide, by show (0 : Int) ≤ 0; decide, by show (0 : Int) + 0 ≤ 40; decide⟩, fun k k0 k1 => absurd k1 (by show ¬ k < 0; omega), fun k k0 k1 => absurd k1 (by show ¬ k < 0; omega)⟩
    · obtain ⟨g1, g2, g3⟩ := hq
      have e10 : zI z1 (b 0) 10 = zI z (b 0) 10 := (bI cw f1' (R := [(0, some 10)]) (by decide) (k := 0) (by decide) (i := 10) (wHas_i (by decide))).1
      have ed : ∀ k, zI z1 (b 10) k = zI z (b 10) k := fun k => (bI cw f1' (R := [(10, none)]) (by decide) (k := 10) (by decide) (i := k) (wHas_a (by decide))).1
      refine ⟨⟨⟨e52, by show (0 : Int) ≤ 0; decide, by show (0 : Int) ≤ 362; decide⟩, fun k k0 k1 => absurd k1 (by show ¬ k < 0; omega), fun j k j0 j1 => absurd j1 (by show ¬ j < 0; omega)⟩, by rw [e10]; exact g2, fun k k0 k1 => by rw [ed, ed, ed]; exact g3 k k0 k1⟩
  refine ⟨cK c1 0 rfl rfl, o_head c1 R1.2.2.2.2.1 ?_⟩
  refine ⟨b 3, cO c1 0 2 3 (by decide), cK c1 3 rfl rfl, ?_⟩
  refine o_at c1 R1.2.2.2.1 ?_
  have hh := hB.2.2.1.2.1
  have hh1 := hB.2.2.1.1 _ hh.1 hh.2.1
  have hin : 0 ≤ (pBare S).2.2.1.1 (pBare S).2.2.1.2.1 ∧ (pBare S).2.2.1.1 (pBare S).2.2.1.2.1 < (pBare S).2.1.1 := ⟨hh.2.2, hh1.2⟩
  rw [if_pos hin]
  obtain ⟨⟨⟨va, hva, sva⟩, -⟩, -⟩ := R1.2.2.2.1.2 _ hin.1 hin.2
  rw [hva, if_neg (by simp)]
  refine ⟨va, rfl, ShC_7 sva, c, s, Nat.le_refl _, Nat.le_refl _, ?_⟩
  refine k_twinS R1 sva hc hs (fun q y J iJ fn zq sq q3 Ry => ?_)
  refine ⟨cK Ry.1 0 rfl rfl, ?_⟩
  refine o_show Ry sq (fun w fw ew Rw => ?_)
  unfold F_X11_drop_44
  refine ⟨cK Rw.1 0 rfl rfl, o_head Rw.1 Rw.2.2.2.2.1 ?_⟩
  have ey11 : zO y (b 0) 11 = zO z (b 0) 11 := by
    rw [(fn.2 (b 0) 11 (by rw [cK c1 0 rfl rfl]; decide) (fun w => w)).2.2]
    exact (bI cw f1' (R := [(0, some 11)]) (by decide) (k := 0) (by decide) (i := 11) (wHas_i (by decide))).2.2
  have e11z : zO z1 (b 0) 11 = zO z (b 0) 11 := (bI cw f1' (R := [(0, some 11)]) (by decide) (k := 0) (by decide) (i := 11) (wHas_i (by decide))).2.2
  have wz : WkN z w b := by
    obtain ⟨q', ⟨g1, g2⟩, g3, g4, g5⟩ := WkN_nw c1 fn zq q3 Ry.1 (ShC_7 sq) fw ew
    refine ⟨q', ⟨g1, new_of f1 g2⟩, g3, fun a ha => ?_, fun a ha => g5 a (by rw [e11z]; exact ha)⟩
    rcases g4 a ha with g | g | ⟨k, k0, k1, g⟩ | ⟨k, k0, k1, g⟩
    · exact Or.inl g
    · exact Or.inr (Or.inl (by rw [← e11z]; exact g))
    · rw [e62] at k1; omega
    · rw [e63] at k1; omega
  refine h w J (GrI_pre f1 iJ) ?_ Rw wz
  · refine FrZ_wl f1 (FrZ_wl (y := y) (FrZ_mono fn (fun _ _ _ w => w.elim)) (FrZ_mono fw (fun a i ha w => ?_)))
    rcases w with ⟨t, t1, t2, t3⟩ | w | w
    · exact Or.inl ⟨t, (show ∀ t ∈ [((0 : Nat), some (11 : Int))], t ∈ wDr by decide) t t1, t2, t3⟩
    · refine Or.inr (Or.inl ⟨?_, w.2⟩)
      show zO z (b 0) 11 = some a
      rw [← ey11]; exact w.1
    · exact absurd w.1 id
def wDm : WR := [(0, some 0), (0, some 12), (0, some 13), (0, some 98), (0, some 16), (0, some 17), (0, some 65), (1, none), (2, none), (3, none), (4, none), (5, none)]
theorem i_become {u : Mu} {N : Int} {S : SS} {P : Mu → Prop} (hB : Bd S) (R : RM u N S) (h : ∀ v, RM v N (pDrop S).2 → FrM wDm u v → (mI v 0 0 = mI u 0 0 ∧ mI v 0 65 = 0) → P v) : F_X12_become (pHead S) u P := by
  obtain ⟨⟨n1, n2⟩, ht, hl, hb, hk, hq⟩ := id R
  have hh := hB.2.2.1.2.1
  have hh1 : pHead S < S.2.1.1 := (hB.2.2.1.1 _ hh.1 hh.2.1).2
  have hh0 : 0 ≤ pHead S := hh.2.2
  have h40 := hB.2.1.1
  unfold F_X12_become
  refine i_copySheet hh0 (by omega) (by omega) (by omega) ?_
  rintro _ rfl _ rfl
  refine i_forgetSteps ?_
  generalize hx : uI (uI (uI (uI (cpF u (pHead S) 40) 0 13 (-1)) 0 98 0) 0 16 0) 0 17 0 = x
  have fx : FrM wDm u x := by rw [← hx]; exact FrM_uI (FrM_uI (FrM_uI (FrM_uI (FrM_cpF FrM_rf (by decide) (by decide)) (wHas_i (by decide))) (wHas_i (by decide))) (wHas_i (by decide))) (wHas_i (by decide))
  have g := Grw_fr n1.1 fx (by decide)
  have e19 := mE fx (R := rgC) (by decide) (k := 0) (i := 19) (wHas_i (by decide))
  have e24 := mE fx (R := rgC) (by decide) (k := 0) (i := 24) (wHas_i (by decide))
  have p : ∀ i, i ≠ 65 → i ≠ 13 → i ≠ 98 → i ≠ 16 → i ≠ 17 → mI x 0 i = mI u 0 i := fun i a1 a2 a3 a4 a5 => by rw [← hx, mI_uI, if_neg (by omega), mI_uI, if_neg (by omega), mI_uI, if_neg (by omega), mI_uI, if_neg (by omega), mF0 (Or.inl rfl) (by omega)]
  have p13 : mI x 0 13 = -1 := by rw [← hx, mI_uI, if_neg (by omega), mI_uI, if_neg (by omega), mI_uI, if_neg (by omega), mI_uI, if_pos ⟨rfl, rfl⟩]
  have p98 : mI x 0 98 = 0 := by rw [← hx, mI_uI, if_neg (by omega), mI_uI, if_neg (by omega), mI_uI, if_pos ⟨rfl, rfl⟩]
  have p16 : mI x 0 16 = 0 := by rw [← hx, mI_uI, if_neg (by omega), mI_uI, if_pos ⟨rfl, rfl⟩]
  have p17 : mI x 0 17 = 0 := by rw [← hx, mI_uI, if_pos ⟨rfl, rfl⟩]
  have s1 : ∀ s, s ≠ 40 → SlM u x s s := fun s hs => by rw [← hx]; exact SlM_65 (SlM_65 (SlM_65 (SlM_65 (SlM_fo hs))))
  have s2 : SlM u x (pHead S) 40 := by rw [← hx]; exact SlM_65 (SlM_65 (SlM_65 (SlM_65 SlM_f)))
  refine h x ⟨by rw [e19, e24]; exact ⟨n1, n2⟩, RMt_fr fx (by decide) ht, RMl_fr fx (by decide) (fun k a c => (hB.2.1.2 k a c).1) g (fun k a c => (by have c' : k < S.2.1.1 := c; exact s1 k (by omega))) hl, ?_, ?_, ?_⟩ fx ⟨p 0 (by decide) (by decide) (by decide) (by decide) (by decide), by rw [← hx, mI_uI, if_neg (by omega), mI_uI, if_neg (by omega), mI_uI, if_neg (by omega), mI_uI, if_neg (by omega)]; exact cpF_65⟩
  · obtain ⟨g1, g2, g3, g4⟩ := hb
    unfold RMb
    rw [p 12 (by decide) (by decide) (by decide) (by decide) (by decide), p13, p 25 (by decide) (by decide) (by decide) (by decide) (by decide), p 14 (by decide) (by decide) (by decide) (by decide) (by decide), p 6 (by decide) (by decide) (by decide) (by decide) (by decide), p 7 (by decide) (by decide) (by decide) (by decide) (by decide)]
    exact ⟨fun k a c => (mE fx (R := [(11, none)]) (by decide) (wHas_a (by decide))).trans (g1 k a c), g2, rfl, g4⟩
  · obtain ⟨g1, ⟨g2, g3, g4, g5⟩, g6⟩ := hk
    exact ⟨ShM_s (hB.2.1.2 _ hh0 hh1).1 g s2 (hl.2 _ hh0 hh1).1, ⟨p16, p17, by rw [p 15 (by decide) (by decide) (by decide) (by decide) (by decide)]; exact ⟨g4, g5⟩⟩, fun k k0 k1 => absurd k1 (by show ¬ k < 0; omega), fun k k0 k1 => absurd k1 (by show ¬ k < 0; omega)⟩
  · obtain ⟨⟨g1, g2⟩, g3, g4⟩ := hq
    have ed : ∀ k i, wHas [(101, none), (102, none), (103, none)] k i → mI x k i = mI u k i := fun k i hk => mE fx (R := [(101, none), (102, none), (103, none)]) (by decide) hk
    refine ⟨⟨p98, fun k k0 k1 => absurd k1 (by show ¬ k < 0; omega)⟩, by rw [p 104 (by decide) (by decide) (by decide) (by decide) (by decide)]; exact g3, fun k k0 k1 => ?_⟩
    rw [ed 101 k (wHas_a (by decide)), ed 102 k (wHas_a (by decide)), ed 103 k (wHas_a (by decide))]; exact g4 k k0 k1
theorem Bd_drop {S : SS} (hB : Bd S) : Bd (pDrop S).2 := by
  have hh := hB.2.2.1.2.1
  have hh1 := hB.2.2.1.1 _ hh.1 hh.2.1
  have h1 := hB.2.1.1
  refine ⟨hB.1, hB.2.1, ⟨hB.2.2.1.1, hh, by show (-1 : Int) ≤ -1 ∧ (-1 : Int) < S.2.1.1; omega⟩, ⟨(hB.2.1.2 _ hh.2.2 hh1.2).1, by show (0 : Int) ≤ 0 ∧ (0 : Int) ≤ 0 ∧ (0 : Int) + 0 ≤ 40; decide, fun k k0 k1 => absurd k1 (by show ¬ k < 0; omega), fun k k0 k1 => absurd k1 (by show ¬ k < 0; omega)⟩, by show (0 : Int) ≤ 0 ∧ (0 : Int) ≤ 362; decide, hB.2.2.2.2.2⟩
theorem i_drop {u : Mu} {N : Int} {S : SS} {P : Int → Mu → Prop} (hB : Bd S) (R : RM u N S) (h : ∀ v, RM v N (pDrop S).2 → FrM wDm u v → (mI v 0 0 = 0 ∧ mI v 0 65 = 0) → P (pDrop S).1 v) : F_X12_drop u P := by
  unfold F_X12_drop
  rintro _ rfl
  have R' := RM_thr (x := 0) hB R
  refine i_headB hB R'.2.2.2.1 (i_become hB R' (fun v Rv fv z0 => ?_))
  refine i_headB (Bd_drop hB) Rv.2.2.2.1 (h v Rv ?_ ⟨by rw [z0.1, mI_uI, if_pos ⟨rfl, rfl⟩], z0.2⟩)
  exact FrM_tr (FrM_uI FrM_rf (wHas_i (by decide))) fv
