/-! ===== merging: join ===== -/
theorem jn2_mem {p o d : Sh} {ax x : Int} : ∀ (m : Nat) (k : Int) (L : List Int) (a : Int), x ∈ jn2 p o d ax m k L a → x ∈ L ∨ ∃ j, k ≤ j ∧ j < k + m ∧ idS o ax j = x
  | 0, _, L, _, h => Or.inl h
  | m + 1, k, L, a, h => by
    rw [jn2] at h
    by_cases e : 0 ≤ plS p ax (idS o ax k)
    · rw [if_pos e] at h
      rcases jn2_mem m (k + 1) _ _ h with g | ⟨j, j0, j1, j2⟩
      · exact Or.inl g
      · exact Or.inr ⟨j, by omega, by omega, j2⟩
    · rw [if_neg e] at h
      by_cases e2 : stP o p d ax (idS o ax k)
      · rw [ci_1 e2] at h
        rcases jn2_mem m (k + 1) _ _ h with g | ⟨j, j0, j1, j2⟩
        · rcases insL_mem.mp g with g | g
          · exact Or.inr ⟨k, by omega, by omega, g.symm⟩
          · exact Or.inl g
        · exact Or.inr ⟨j, by omega, by omega, j2⟩
      · rw [ci_0 e2] at h
        rcases jn2_mem m (k + 1) _ _ h with g | ⟨j, j0, j1, j2⟩
        · exact Or.inl g
        · exact Or.inr ⟨j, by omega, by omega, j2⟩
theorem jnL_in {p o d : Sh} {ax x : Int} (h : x ∈ jnL p o d ax) : 0 ≤ plS p ax x ∨ 0 ≤ plS o ax x := by
  rcases jn2_mem _ _ _ _ h with g | ⟨j, j0, j1, j2⟩
  · obtain ⟨j, j0, j1, j2, -⟩ := (jn1_mem _ _).mp g
    exact Or.inl (by rw [← j2]; exact plS_in j0 (by omega))
  · exact Or.inr (by rw [← j2]; exact plS_in j0 (by omega))
theorem joinL_in {w t d : Sh} {ax x : Int} (h : x ∈ joinL w t d ax) : 0 ≤ plS w ax x ∨ 0 ≤ plS t ax x := by
  unfold joinL at h
  by_cases e : ordP w d t ax
  · rw [ci_1 e] at h; exact (jnL_in h).symm
  · rw [ci_0 e] at h; exact jnL_in h
theorem WL_sub {z : Z} {b : Nat → Nat} {L R : WR} {a : Nat} {i : Int} (h : ∀ t ∈ L, t ∈ R) (g : WL z b L no1 no1 a i) : WL z b R no1 no1 a i := by
  rcases g with ⟨t, t1, t2⟩ | g | g
  · exact Or.inl ⟨t, h t t1, t2⟩
  · exact absurd g.1 id
  · exact absurd g.1 id
theorem FrZ_sub {z y : Z} {b : Nat → Nat} {L R : WR} (h : ∀ t ∈ L, t ∈ R) (f : FrZ (WL z b L no1 no1) z y) : FrZ (WL z b R no1 no1) z y := FrZ_mono f (fun _ _ _ g => WL_sub h g)
theorem CfLC_I {z : Z} {b : Nat → Nat} {I J : Nat → Prop} {D : List Cf} (i : ∀ a, I a → J a) (d : CfLC z b I D) : CfLC z b J D := ⟨d.1, fun k hk => CfC_I i (d.2.1 k hk), d.2.2⟩
def wJn : WR := [(5, some 3), (5, some 4), (5, some 5), (31, none)]
def wJa : WR := [(5, some 3), (5, some 4), (5, some 5), (31, none), (5, some 2), (30, none)]
theorem o_join {z : Z} {b : Nat → Nat} {I : Nat → Prop} {a1 a2 a3 : Nat} {w t d : Sh} {c s : Nat} {P : Option Nat → Z → Prop} (hwz : WzI z I) (cw : CWz z b) (r : Frz z b I) (h1 : ShC z I a1 w) (h2 : ShC z I a2 t) (h3 : ShC z I a3 d) (cs : CoS w) (ct : CoS t) (cd : CoS d) (dw : DsS w) (dt : DsS t) (dd : DsS d) (hc : 400 ≤ c) (hs : 3000 ≤ s) (hn : ¬ fitJ w t d → ∀ y, FrZ (WL z b wJn no1 no1) z y → P none y) (h : fitJ w t d → ∀ q y J, GrI z I J → Frz y b J → FrZ (WL z b wJa no1 no1) z y → zK z q = 0 → zO y q 3 = none → ShC y J q (jSh w t d) → CfLC y b J (cfA w t d) → P (some q) y) : F_X3_join (b 5) (some a1) (some a2) (some a3) z c s P := by
  unfold F_X3_join F_X3_join_73
  rw [if_neg (by simp), if_neg (by simp), if_neg (by simp)]
  refine ⟨cK cw 5 rfl rfl, ?_⟩
  rintro _ rfl _ rfl _ rfl
  have f1 : FrZ (WL z b [(5, some 3), (5, some 4), (5, some 5)] no1 no1) z (wO (wO (wO z (b 5) 3 (some a1)) (b 5) 4 (some a2)) (b 5) 5 (some a3)) := FrZ_wO (FrZ_wO (FrZ_wO FrZ_rf (Or.inl (WL_i (by decide) (by decide)))) (Or.inl (WL_i (by decide) (by decide)))) (Or.inl (WL_i (by decide) (by decide)))
  have g3 : zO (wO (wO (wO z (b 5) 3 (some a1)) (b 5) 4 (some a2)) (b 5) 5 (some a3)) (b 5) 3 = some a1 := by rw [zO_wO, if_neg (by omega), zO_wO, if_neg (by omega), zO_wO, if_pos ⟨rfl, rfl⟩]
  have g4 : zO (wO (wO (wO z (b 5) 3 (some a1)) (b 5) 4 (some a2)) (b 5) 5 (some a3)) (b 5) 4 = some a2 := by rw [zO_wO, if_neg (by omega), zO_wO, if_pos ⟨rfl, rfl⟩]
  have g5 : zO (wO (wO (wO z (b 5) 3 (some a1)) (b 5) 4 (some a2)) (b 5) 5 (some a3)) (b 5) 5 = some a3 := by rw [zO_wO, if_pos ⟨rfl, rfl⟩]
  generalize (wO (wO (wO z (b 5) 3 (some a1)) (b 5) 4 (some a2)) (b 5) 5 (some a3)) = z1 at f1 g3 g4 g5
  have cw1 := CWz_fr cw f1 (by decide)
  have r1 : Frz z1 b I := Frz_fr r f1
  have M1 : Mg3 z1 b I a1 a2 a3 w t d := ⟨⟨cK cw1 5 rfl rfl, g3, g4, g5⟩, ShC_fr f1 (WL_I r) (WL_7 cw) h1, ShC_fr f1 (WL_I r) (WL_7 cw) h2, ShC_fr f1 (WL_I r) (WL_7 cw) h3⟩
  have hz1 := WzI_fr r f1 (WL_I r) hwz
  refine ⟨1, 64, by omega, by omega, o_joinL (fun v f => WzI_fr r1 f (WL_I r1) hz1) cw1 r1 (Or.inl rfl) M1 cs ct cd dw dt dd FrZ_rf (fun _ g => g) (Nat.le_refl _) (Nat.le_refl _) (fun q0 z2 f2 zq0 k0 n0 i0 len0 _ => ?_)⟩
  have cw2 := CWz_fr cw1 f2 (by decide)
  have r2 : Frz z2 b I := Frz_fr r1 f2
  have M2 := Mg3_fr cw1 r1 f2 (by decide) M1
  have hz2 := WzI_fr r1 f2 (WL_I r1) hz1
  have bq0 : ∀ k, k < 35 → q0 ≠ b k := fun k hk g => (ckz_k k hk).2.2 (by rw [← (cw1.1 k hk).1, ← g]; exact zq0)
  refine ⟨cK cw2 5 rfl rfl, 1, 64, by omega, by omega, o_joinL (fun v f => WzI_fr r2 f (WL_I r2) hz2) cw2 r2 (Or.inr rfl) M2 cs ct cd dw dt dd FrZ_rf (fun _ g => g) (Nat.le_refl _) (Nat.le_refl _) (fun q1 z3 f3 zq1 k1 n1 i1 len1 _ => ?_)⟩
  have cw3 := CWz_fr cw2 f3 (by decide)
  have r3 : Frz z3 b I := Frz_fr r2 f3
  have M3 := Mg3_fr cw2 r2 f3 (by decide) M2
  have hz3 := WzI_fr r2 f3 (WL_I r2) hz2
  have bq1 : ∀ k, k < 35 → q1 ≠ b k := fun k hk g => (ckz_k k hk).2.2 (by rw [← (cw2.1 k hk).1, ← g]; exact zq1)
  have L0 : LnQ z3 q0 (joinL w t d 0) := LnQ_fr f3 bq0 ⟨k0, n0, i0⟩
  have L1 : LnQ z3 q1 (joinL w t d 1) := ⟨k1, n1, i1⟩
  have fz3 : FrZ (WL z b wJn no1 no1) z z3 := FrZ_wl (FrZ_wl (FrZ_sub (by decide) f1) (FrZ_sub (by decide) f2)) (FrZ_sub (by decide) f3)
  have hq1z : zK z q1 = 0 := by
    by_cases e0 : zK z q1 = 0
    · exact e0
    · have e1 := (f1.1 q1 e0).1
      have e2 := (f2.1 q1 (by rw [e1]; exact e0)).1
      rw [e2, e1] at zq1; exact absurd zq1 e0
  refine ⟨q0, rfl, L0.1, ?_⟩
  rw [L0.2.1]
  by_cases e1 : ((joinL w t d 0).length : Int) < 1
  · rw [if_pos e1]; exact hn (fun g => by have := g.1.1; omega) z3 fz3
  rw [if_neg e1]
  by_cases e2 : 32 < ((joinL w t d 0).length : Int)
  · rw [if_pos e2]; exact hn (fun g => by have := g.1.2; omega) z3 fz3
  rw [if_neg e2]
  refine ⟨q1, rfl, L1.1, ?_⟩
  rw [L1.2.1]
  by_cases e3 : ((joinL w t d 1).length : Int) < 1
  · rw [if_pos e3]; exact hn (fun g => by have := g.2.1; omega) z3 fz3
  rw [if_neg e3]
  by_cases e4 : ((joinL w t d 1).length : Int) ≤ 10
  rotate_left
  · rw [if_neg e4]; exact hn (fun g => by have := g.2.2; omega) z3 fz3
  rw [if_pos e4]
  have fit : fitJ w t d := ⟨⟨by omega, by omega⟩, by omega, by omega⟩
  replace h := h fit
  clear hn
  refine ⟨cK cw3 5 rfl rfl, ?_⟩
  rintro _ rfl
  have f4 : FrZ (WL z3 b wJc no1 no1) z3 (wI z3 (b 5) 2 0) := FrZ_wI FrZ_rf (Or.inl (WL_i (by decide) (by decide)))
  have d4 : CfLC (wI z3 (b 5) 2 0) b I [] := ⟨by rw [zI_wI, if_pos ⟨rfl, rfl⟩]; rfl, fun i hi => absurd hi (by show ¬ i < 0; omega), fun i j hi => absurd hi (by show ¬ i < 0; omega)⟩
  generalize wI z3 (b 5) 2 0 = z4 at f4 d4
  have cw4 := CWz_fr cw3 f4 (by decide)
  have r4 : Frz z4 b I := Frz_fr r3 f4
  have M4 := Mg3_fr cw3 r3 f4 (by decide) M3
  have hz4 := WzI_fr r3 f4 (WL_I r3) hz3
  have L04 := LnQ_fr f4 bq0 L0
  have L14 := LnQ_fr f4 bq1 L1
  have fr := fit.1
  have fc := fit.2
  have c1 := cfL_n w t d 0 (joinL w t d 0) (joinL w t d 0).length 0
  have c2 := cfL_n w t d 1 (joinL w t d 1) (joinL w t d 1).length 0
  refine ⟨32, 224, by omega, by omega, o_noteLine cw4 r4 (Or.inl rfl) M4 bq0 L04 (fun x hx => joinL_in hx) len0 (by show 0 + _ ≤ 362; omega) d4 (by omega) (by omega) (fun z5 f5 d5 => ?_)⟩
  have cw5 := CWz_fr cw4 f5 (by decide)
  have r5 : Frz z5 b I := Frz_fr r4 f5
  have M5 := Mg3_fr cw4 r4 f5 (by decide) M4
  have hz5 := WzI_fr r4 f5 (WL_I r4) hz4
  have L05 := LnQ_fr f5 bq0 L04
  have L15 := LnQ_fr f5 bq1 L14
  refine ⟨cK cw5 5 rfl rfl, 10, 70, by omega, by omega, o_noteLine cw5 r5 (Or.inr rfl) M5 bq1 L15 (fun x hx => joinL_in hx) len1 (by rw [List.nil_append]; omega) d5 (by omega) (by omega) (fun z6 f6 d6 => ?_)⟩
  have cw6 := CWz_fr cw5 f6 (by decide)
  have r6 : Frz z6 b I := Frz_fr r5 f6
  have M6 := Mg3_fr cw5 r5 f6 (by decide) M5
  have hz6 := WzI_fr r5 f6 (WL_I r5) hz5
  have L06 := LnQ_fr f6 bq0 L05
  have L16 := LnQ_fr f6 bq1 L15
  have fz6 : FrZ (WL z b wJa no1 no1) z z6 := FrZ_wl (FrZ_wl (FrZ_wl (FrZ_sub (by decide) fz3) (FrZ_sub (by decide) f4)) (FrZ_sub (by decide) f5)) (FrZ_sub (by decide) f6)
  refine ⟨by omega, by omega, fun q hq => ?_⟩
  rintro _ rfl
  have hm := cnt (nr := ((joinL w t d 0).length : Int)) (nc := ((joinL w t d 1).length : Int)) ⟨by omega, by omega⟩ ⟨by omega, by omega⟩
  refine ⟨1, 320, by omega, by omega, k_new7 hq L06.1 L16.1 L06.2.1 L16.2.1 ⟨by omega, by omega⟩ ⟨by omega, by omega⟩ (Nat.le_refl _) (by omega) (fun x y0 nw _ => ?_)⟩
  obtain ⟨nq, nx, qx, fn, Sp, q3, -⟩ := nw
  refine o_joinCells hz6 cw6 r6 M6 cs ct cd ⟨by omega, by omega⟩ ⟨by omega, by omega⟩ nq nx qx bq0 bq1 L06 L16 fn Sp q3 (by rw [List.nil_append, List.length_append]; push_cast; omega) d6 (by omega) (by omega) (fun y fy Sy y3 cy dy => ?_)
  have L0y := LnQ_fr fy bq0 L06
  have L1y := LnQ_fr fy bq1 L16
  have ry : Frz y b I := Frz_fr r6 fy
  have bx : ∀ k, k < 35 → x ≠ b k := fun k hk g => (ckz_k k hk).2.2 (by rw [← (cw6.1 k hk).1, ← g]; exact nx)
  have x19 : zK y x = 19 := Sy.2.2.2.2.2.2.1
  have iJ : ∀ a, I a → (I a ∨ (a = q0 ∨ a = q1 ∨ a = x)) := fun a ha => Or.inl ha
  have hqz : zK z q = 0 := by
    by_cases e0 : zK z q = 0
    · exact e0
    · rw [(fz6.1 q e0).1] at hq; exact absurd hq e0
  refine h q y (fun a => I a ∨ (a = q0 ∨ a = q1 ∨ a = x)) ⟨iJ, fun a ha => ha.imp id (fun e => e.elim (fun e => by rw [e]; exact new_of f1 zq0) (fun e => e.elim (fun e => by rw [e]; exact new_of f1 (new_of f2 zq1)) (fun e => by rw [e]; exact new_of fz6 nx)))⟩ ?_ (FrZ_wl fz6 (FrZ_sub (by decide) fy)) hqz y3 ⟨q0, q1, x, Sy, Or.inr (Or.inl rfl), Or.inr (Or.inr (Or.inl rfl)), Or.inr (Or.inr (Or.inr rfl)), L0y.2.2, L1y.2.2, fun i j a1 a2 a3 a4 => ContC_I iJ (cy i j a1 a2 a3 a4)⟩ (CfLC_I iJ dy)
  rintro a (ha | rfl | rfl | rfl)
  · exact ry a ha
  · exact ⟨by rw [L0y.1]; decide, by rw [L0y.1]; decide, by rw [L0y.1]; decide, bq0⟩
  · exact ⟨by rw [L1y.1]; decide, by rw [L1y.1]; decide, by rw [L1y.1]; decide, bq1⟩
  · exact ⟨by rw [x19]; decide, by rw [x19]; decide, by rw [x19]; decide, bx⟩
