/-! ===== the system's reader: places ===== -/
def wCn : WR := [(1, some 13), (1, some 14), (1, some 15), (1, some 16)]
theorem o_crn {t : Tx} {z : Z} {b : Nat → Nat} {x : Int} {P : Int → Z → Prop} (C : TxC t z b) (h0 : 0 ≤ x) (h1 : x ≤ 1000) (hy : crP t x → ∀ y, FrZ (WB b wCn) z y → zI y (b 1) 13 = crR t x → zI y (b 1) 14 = crC t x → zI y (b 1) 15 = crF t x → zI y (b 1) 16 = crE t x → P 1 y) (hn : ¬ crP t x → ∀ y, FrZ (WB b wCn) z y → P 0 y) : F_X5_isCorner (b 1) x z P := by
  have c0 := cr0_b (t := t) (k := x)
  have c2 := cr0_b (t := t) (k := cr0 t x + 1)
  have e2 : cr2 t x = cr0 t (cr0 t x + 1) := rfl
  have K1 : ∀ y, FrZ (WB b wCn) z y → TxC t y b := fun y f => TxC_f (WB_s (by decide) f) C
  have W1 : ∀ (y : Z) (i v : Int), FrZ (WB b wCn) z y → (1, some i) ∈ wCn → FrZ (WB b wCn) z (wI y (b 1) i v) := fun y i v f hm => FrZ_wI f (Or.inl (WB_i hm (by decide)))
  -- the end
  have X : ∀ y, FrZ (WB b wCn) z y → (65 ≤ bt t (cr0 t x) ∧ bt t (cr0 t x) ≤ 74) → dgB (bt t (cr2 t x)) = true → zI y (b 1) 13 = crR t x → zI y (b 1) 14 = crC t x → zI y (b 1) 15 = crF t x → F_X5_isCorner_146 (b 1) (crE t x) y P := by
    intro y f hA hd e13 e14 e15
    unfold F_X5_isCorner_146 F_X5_isCorner_177 F_X5_isCorner_178
    refine ⟨cK (K1 y f).1 1 rfl rfl, ?_⟩
    rintro _ rfl
    have fy := W1 y 16 (crE t x) f (by decide)
    have Cy := K1 _ fy
    refine o_byt Cy (o_dig Cy (fun d => ?_) (fun d => ?_))
    · rw [if_neg (by decide)]
      exact ⟨z1_0, hn (fun k => by rw [k.2.2.1] at d; cases d) _ fy⟩
    · rw [if_pos rfl]
      refine o_byt Cy (o_let Cy (fun l => ?_) (fun l => ?_))
      · rw [if_neg (by decide)]
        exact ⟨z1_0, hn (fun k => by rw [k.2.2.2] at l; cases l) _ fy⟩
      · rw [if_pos rfl]
        refine ⟨z1_1, hy ⟨hA, hd, d, l⟩ _ fy ?_ ?_ ?_ ?_⟩
        · rw [zI_wI, if_neg (by omega)]; exact e13
        · rw [zI_wI, if_neg (by omega)]; exact e14
        · rw [zI_wI, if_neg (by omega)]; exact e15
        · rw [zI_wI, if_pos ⟨rfl, rfl⟩]
  have A : ∀ y q, q = cr2 t x → FrZ (WB b wCn) z y → (65 ≤ bt t (cr0 t x) ∧ bt t (cr0 t x) ≤ 74) → zI y (b 1) 14 = crC t x → zI y (b 1) 15 = crF t x → F_X5_isCorner_84 (b 1) q y P := by
    intro y q hq f hA e14 e15
    have Cy := K1 y f
    unfold F_X5_isCorner_84
    refine ⟨cK Cy.1 1 rfl rfl, o_byt Cy (o_dig Cy (fun d0 => ?_) (fun d0 => ?_))⟩
    · rw [if_neg (by decide)]
      have dd := dgB_i.mp d0
      unfold dgP at dd
      have sv := sb_v Cy q
      have es : sbt t q = bt t q := by omega
      refine o_byt Cy ?_
      rw [es, w32e (x := bt t q - 48) (by omega) (by omega)]
      rintro _ rfl
      have f1 := W1 y 13 (bt t q - 48) f (by decide)
      have C1 := K1 _ f1
      rw [w32e (x := q + 1) (by omega) (by omega)]
      refine o_byt C1 (o_dig C1 (fun d1 => ?_) (fun d1 => ?_))
      · rw [if_neg (by decide)]
        have nd : dgB (bt t (cr2 t x + 1)) = true := by rw [← hq]; exact d1
        have dd1 := dgB_i.mp d1
        unfold dgP at dd1
        have sv1 := sb_v C1 (q + 1)
        have es1 : sbt t (q + 1) = bt t (q + 1) := by omega
        refine o_byt C1 ?_
        rw [es1, show zI (wI y (b 1) 13 (bt t q - 48)) (b 1) 13 = bt t q - 48 by rw [zI_wI, if_pos ⟨rfl, rfl⟩]]
        have ev : w32 ((w32 (w32 ((bt t q - 48) * 10) + bt t (q + 1))) - 48) = (bt t q - 48) * 10 + bt t (q + 1) - 48 := by simp (disch := omega) only [w32e]
        rw [ev, w32e (x := q + 1 + 1) (by omega) (by omega)]
        rintro _ rfl
        have f2 := W1 _ 13 ((bt t q - 48) * 10 + bt t (q + 1) - 48) f1 (by decide)
        have eE : q + 1 + 1 = crE t x := by unfold crE; rw [if_pos nd, hq]; omega
        rw [eE]
        refine X _ f2 hA (by rw [← hq]; exact d0) ?_ ?_ ?_
        · rw [zI_wI, if_pos ⟨rfl, rfl⟩]; unfold crR; rw [if_pos nd, hq]
        · rw [zI_wI, if_neg (by omega), zI_wI, if_neg (by omega)]; exact e14
        · rw [zI_wI, if_neg (by omega), zI_wI, if_neg (by omega)]; exact e15
      · rw [if_pos rfl]
        have nd : ¬ dgB (bt t (cr2 t x + 1)) = true := by rw [← hq, d1]; decide
        have eE : q + 1 = crE t x := by unfold crE; rw [if_neg nd, hq]
        rw [eE]
        refine X _ f1 hA (by rw [← hq]; exact d0) ?_ ?_ ?_
        · rw [zI_wI, if_pos ⟨rfl, rfl⟩]; unfold crR; rw [if_neg nd, hq]
        · rw [zI_wI, if_neg (by omega)]; exact e14
        · rw [zI_wI, if_neg (by omega)]; exact e15
    · rw [if_pos rfl]
      exact hn (fun k => by have := k.2.1; rw [← hq, d0] at this; cases this) y f
  have B : ∀ y q, q = cr0 t x → FrZ (WB b wCn) z y → zI y (b 1) 15 = (if bt t x = 36 then 2 else 0) → F_X5_isCorner_25 (b 1) q y P := by
    intro y q hq f e15
    have Cy := K1 y f
    have sv := sb_v Cy q
    unfold F_X5_isCorner_25 F_X5_isCorner_56
    refine ⟨cK Cy.1 1 rfl rfl, o_byt Cy ?_⟩
    have sr := sb_r Cy q
    have ev : w32 (w32 (sbt t q - 65) + 1) = sbt t q - 64 := by rw [w32e (x := sbt t q - 65) (by omega) (by omega), w32e (by omega) (by omega)]; omega
    rw [ev]
    rintro _ rfl
    have f1 := W1 y 14 (sbt t q - 64) f (by decide)
    have C1 := K1 _ f1
    have e14 : zI (wI y (b 1) 14 (sbt t q - 64)) (b 1) 14 = sbt t q - 64 := by rw [zI_wI, if_pos ⟨rfl, rfl⟩]
    have e15' : zI (wI y (b 1) 14 (sbt t q - 64)) (b 1) 15 = (if bt t x = 36 then 2 else 0) := by rw [zI_wI, if_neg (by omega)]; exact e15
    rw [e14]
    by_cases g1 : sbt t q - 64 < 1
    · rw [if_pos g1]
      exact hn (fun k => by have := k.1; rw [← hq] at this; omega) _ f1
    · rw [if_neg g1]
      by_cases g2 : sbt t q - 64 ≤ 10
      · rw [if_pos g2, w32e (x := q + 1) (by omega) (by omega)]
        have es : sbt t q = bt t q := by omega
        have hA : 65 ≤ bt t (cr0 t x) ∧ bt t (cr0 t x) ≤ 74 := by rw [← hq]; omega
        have c14 : sbt t q - 64 = crC t x := by unfold crC; rw [← hq, es]
        refine o_byt C1 ?_
        by_cases d : bt t (q + 1) = 36
        · rw [if_pos ((sb_i C1 (by decide) (by decide)).mpr d), w32e (x := q + 1 + 1) (by omega) (by omega), e15']
          rintro _ rfl
          have f2 := W1 _ 15 (bOr (if bt t x = 36 then 2 else 0) 1) f1 (by decide)
          refine A _ _ (by rw [e2, ← hq, cr0_y d]) f2 hA ?_ ?_
          · rw [zI_wI, if_neg (by omega), e14, c14]
          · rw [zI_wI, if_pos ⟨rfl, rfl⟩]
            unfold crF
            rw [← hq, if_pos d]
            by_cases g : bt t x = 36
            · rw [if_pos g]; decide
            · rw [if_neg g]; decide
        · rw [if_neg (fun q' => d ((sb_i C1 (by decide) (by decide)).mp q'))]
          refine A _ _ (by rw [e2, ← hq, cr0_n d]) f1 hA (by rw [e14, c14]) ?_
          rw [e15']
          unfold crF
          rw [← hq, if_neg d]
          omega
      · rw [if_neg g2]
        exact hn (fun k => by have := k.1; rw [← hq] at this; omega) _ f1
  unfold F_X5_isCorner
  refine ⟨cK C.1 1 rfl rfl, ?_⟩
  rintro _ rfl
  have f1 := W1 z 15 0 FrZ_rf (by decide)
  have C1 := K1 _ f1
  refine o_byt C1 ?_
  by_cases c : bt t x = 36
  · rw [if_pos ((sb_i C1 (by decide) (by decide)).mpr c), w32e (by omega) (by omega)]
    rintro _ rfl
    exact B _ _ (cr0_y c).symm (W1 _ 15 2 f1 (by decide)) (by rw [zI_wI, if_pos ⟨rfl, rfl⟩, if_pos c])
  · rw [if_neg (fun q => c ((sb_i C1 (by decide) (by decide)).mp q))]
    exact B _ _ (cr0_n c).symm f1 (by rw [zI_wI, if_pos ⟨rfl, rfl⟩, if_neg c])
/-- a place part that is being made: a new cell q -/
def NpC (z : Z) (q : Nat) (op r c r2 c2 fx v : Int) : Prop := zK z q = 5 ∧ zI z q 0 = op ∧ zI z q 1 = 0 ∧ zO z q 2 = none ∧ (zI z q 3 = r ∧ zI z q 4 = c ∧ zI z q 5 = r2 ∧ zI z q 6 = c2) ∧ zI z q 7 = fx ∧ zI z q 8 = v
theorem NpC_fr {W : Nat → Int → Prop} {z y : Z} {q : Nat} {op r c r2 c2 fx v : Int} (f : FrZ W z y) (hW : ∀ i, ¬ W q i) (h : NpC z q op r c r2 c2 fx v) : NpC y q op r c r2 c2 fx v := by
  obtain ⟨h1, h2, h3, h4, ⟨h5, h6, h7, h8⟩, h9, h10⟩ := h
  have ka : zK z q ≠ 0 := by rw [h1]; decide
  have e : ∀ i, zI y q i = zI z q i := fun i => (f.2 q i ka (hW i)).1
  exact ⟨(f.1 q ka).1.trans h1, (e 0).trans h2, (e 1).trans h3, (f.2 q 2 ka (hW 2)).2.2.trans h4, ⟨(e 3).trans h5, (e 4).trans h6, (e 5).trans h7, (e 6).trans h8⟩, (e 7).trans h9, (e 8).trans h10⟩
theorem o_ver {t : Tx} {b : Nat → Nat} {z0 : Z} {I J : Nat → Prop} {z : Z} {k op r c r2 c2 fx : Int} {ps : List Prt} {lt : Int × Int} {q : Nat} {P : Z → Prop} (C : TxC t z0 b) (R : OkC b z0 I J z k ps lt) (hl : ps.length ≤ 400) (nq : zK z0 q = 0 ∧ ¬ J q) (N : NpC z q op r c r2 c2 fx (-1)) (h0 : 0 ≤ k) (h1 : k ≤ t.2.1) (hf : ∀ p y, vrP t k = .inl p → FlC t b z0 I y 1 p → NpC y q op r c r2 c2 fx (-1) → P y) (hk : ∀ x e y, vrP t k = .inr (x, e) → OkC b z0 I J y e ps lt → NpC y q op r c r2 c2 fx x → P y) : F_X5_readVersion (b 1) (some q) z P := by
  have b3 := C.2.2.1
  have Cz := TxC_o C R
  have cz := Cz.1
  have z9 := R.2.2.2.1.1
  have nk : ∀ k, k < 35 → b k ≠ q := fun k hk e => (ckz_k k hk).2.2 (by rw [← (C.1.1 k hk).1, e]; exact nq.1)
  have nW : ∀ (L : WR) i, ¬ WB b L q i := fun L i ⟨t, t1, t2, t3, t4⟩ => nk t.1 t2 t3.symm
  have fl : ∀ y e p, OkC b z0 I J y e ps lt → NpC y q op r c r2 c2 fx (-1) → 0 ≤ e → e ≤ t.2.1 → vrP t k = .inl p → F_X5_fail (b 1) 1 p y P := by
    intro y e p Ry Ny e0 e1 hv
    have cy := (TxC_o C Ry).1
    unfold F_X5_fail F_X5_fail_17
    refine ⟨cK cy 1 rfl rfl, ?_⟩
    rw [if_pos Ry.2.1.1]
    rintro _ rfl _ rfl
    have fN : FrZ (WB b [(1, some 4), (1, some 5)]) y (wI (wI y (b 1) 4 1) (b 1) 5 p) := FrZ_wI (FrZ_wI FrZ_rf (Or.inl (WB_i (by decide) (by decide)))) (Or.inl (WB_i (by decide) (by decide)))
    have q1 : F_X5_fail (b 1) 1 p y (fun x => x = wI (wI y (b 1) 4 1) (b 1) 5 p → FlC t b z0 I x 1 p) := o_fail (t := t) C.1 Ry (by decide) ⟨e0, e1⟩ hl (fun x F _ => F)
    unfold F_X5_fail F_X5_fail_17 at q1
    obtain ⟨-, q2⟩ := q1
    rw [if_pos Ry.2.1.1] at q2
    exact hf p _ hv (q2 _ rfl _ rfl rfl) (NpC_fr fN (nW _) Ny)
  unfold F_X5_readVersion
  refine ⟨cK cz 1 rfl rfl, ?_⟩
  rw [z9]
  refine o_byt Cz ?_
  have vv : vrP t k = if bt t k = 64 then (if dgB (bt t (k + 1)) = false then .inl (k + 1) else if dgB (bt t (k + 2)) = false then .inr (bt t (k + 1) - 48, k + 2) else if dgB (bt t (k + 3)) = true then .inl (k + 3) else .inr ((bt t (k + 1) - 48) * 10 + bt t (k + 2) - 48, k + 3)) else .inr (-1, k) := rfl
  by_cases c64 : bt t k = 64
  · have kb := bt_in (t := t) (k := k) (by omega)
    rw [if_pos ((sb_i Cz (by decide) (by decide)).mpr c64), w32e (x := k + 1) (by omega) (by omega)]
    rw [if_pos c64] at vv
    rintro _ rfl
    have f1 : FrZ (WB b wSc) z (wI z (b 1) 9 (k + 1)) := FrZ_wI FrZ_rf (Or.inl (WB_i (by decide) (by decide)))
    have R1 := OkC_sc (e' := k + 1) C.1 R f1 (by rw [zI_wI, if_pos ⟨rfl, rfl⟩])
    have N1 := NpC_fr f1 (nW _) N
    generalize wI z (b 1) 9 (k + 1) = y1 at f1 R1 N1
    have C1 := TxC_o C R1
    rw [R1.2.2.2.1.1]
    refine o_byt C1 (o_dig C1 (fun d1 => ?_) (fun d1 => ?_))
    · rw [if_neg (by decide)]
      rw [if_neg (by rw [d1]; decide)] at vv
      have kb1 := bt_in (t := t) (k := k + 1) (fun e => by rw [e] at d1; cases d1)
      have g1 := dgB_i.mp d1
      unfold dgP at g1
      have sv1 := sb_v C1 (k + 1)
      have es1 : sbt t (k + 1) = bt t (k + 1) := by omega
      unfold F_X5_readVersion_55
      refine lp_I (S := Int × Z) (fun s => ∃ j, OkC b z0 I J s.2 j ps lt ∧ NpC s.2 q op r c r2 c2 fx (-1) ∧ ((j = k + 1 ∧ s.1 = 0) ∨ (j = k + 2 ∧ s.1 = bt t (k + 1) - 48) ∨ (j = k + 3 ∧ s.1 = (bt t (k + 1) - 48) * 10 + bt t (k + 2) - 48 ∧ dgB (bt t (k + 2)) = true))) (fun s => (k + 4 - zI s.2 (b 1) 9).toNat) ?_ (0, y1) ⟨k + 1, R1, N1, Or.inl ⟨rfl, rfl⟩⟩
      rintro G ⟨x3, w'⟩ ⟨j, Rw, Nw, hj⟩ ih
      simp only at Rw Nw hj
      have Cw := TxC_o C Rw
      have cw := Cw.1
      have w9 := Rw.2.2.2.1.1
      unfold L_X5_readVersion_55
      dsimp only
      refine ⟨cK cw 1 rfl rfl, ?_⟩
      rw [w9, Cw.2.1.2]
      have hj2 : j = k + 1 ∨ j = k + 2 ∨ j = k + 3 := by omega
      have ex : dgB (bt t j) = false → F_X5_readVersion_132 (some q) x3 w' P := by
        intro dj
        unfold F_X5_readVersion_132
        refine ⟨q, rfl, Nw.1, ?_⟩
        rintro _ rfl
        have fz : FrZ (fun x _ => x = q) w' (wI w' q 8 x3) := FrZ_wI FrZ_rf (Or.inl rfl)
        have Rz := OkC_fr C.1 Rw fz (fun x i hx => by rw [hx]; exact nq)
        have Nz : NpC (wI w' q 8 x3) q op r c r2 c2 fx x3 := by
          obtain ⟨h1, h2, h3, h4, ⟨h5, h6, h7, h8⟩, h9, h10⟩ := Nw
          refine ⟨h1, ?_, ?_, h4, ⟨?_, ?_, ?_, ?_⟩, ?_, by rw [zI_wI, if_pos ⟨rfl, rfl⟩]⟩
          · rw [zI_wI, if_neg (by omega)]; exact h2
          · rw [zI_wI, if_neg (by omega)]; exact h3
          · rw [zI_wI, if_neg (by omega)]; exact h5
          · rw [zI_wI, if_neg (by omega)]; exact h6
          · rw [zI_wI, if_neg (by omega)]; exact h7
          · rw [zI_wI, if_neg (by omega)]; exact h8
          · rw [zI_wI, if_neg (by omega)]; exact h9
        rcases hj with ⟨rfl, rfl⟩ | ⟨rfl, rfl⟩ | ⟨rfl, rfl, d2⟩
        · rw [d1] at dj; cases dj
        · rw [if_pos dj] at vv
          exact hk _ _ _ vv Rz Nz
        · rw [if_neg (by rw [d2]; decide), if_neg (by rw [dj]; decide)] at vv
          exact hk _ _ _ vv Rz Nz
      by_cases ce : t.2.1 ≤ j
      · rw [if_pos ce]
        exact ex (by rw [bt_out (by omega)]; rfl)
      · rw [if_neg ce]
        refine ⟨b 11, cO cw 1 0 11 (by decide), cK cw 11 rfl rfl, by omega, by rw [cN cw 11 (c := 400) rfl rfl]; omega, ?_⟩
        rw [sb_is Cw (by omega) (by omega)]
        refine o_dig Cw (fun dj => ?_) (fun dj => ?_)
        · rw [if_neg (by decide), w32e (x := j - (k + 1)) (by omega) (by omega)]
          by_cases c3 : j - (k + 1) = 2
          · rw [if_pos c3]
            show (zK w' (b 1) = 6 ∧ F_X5_fail (b 1) 1 j w' (fun z_97 => P z_97))
            refine ⟨cK cw 1 rfl rfl, ?_⟩
            refine fl w' j j Rw Nw (by omega) (by omega) ?_
            rcases hj with ⟨e, -⟩ | ⟨e, -⟩ | ⟨e, -, d2⟩
            · omega
            · omega
            · rw [e] at dj ⊢
              rw [vv, if_neg (by rw [d2]; decide), if_pos dj]
          · rw [if_neg c3]
            have gj := dgB_i.mp dj
            unfold dgP at gj
            have svj := sb_v Cw j
            have esj : sbt t j = bt t j := by omega
            rw [esj, w32e (x := j + 1) (by omega) (by omega)]
            rintro _ rfl
            have x3b : 0 ≤ x3 ∧ x3 ≤ 9 := by
              rcases hj with ⟨-, e⟩ | ⟨-, e⟩ | ⟨e, -⟩
              · omega
              · omega
              · omega
            have ev : w32 ((w32 (w32 (x3 * 10) + bt t j)) - 48) = x3 * 10 + bt t j - 48 := by simp (disch := omega) only [w32e]
            rw [ev]
            have f2 : FrZ (WB b wSc) w' (wI w' (b 1) 9 (j + 1)) := FrZ_wI FrZ_rf (Or.inl (WB_i (by decide) (by decide)))
            refine ih (x3 * 10 + bt t j - 48, wI w' (b 1) 9 (j + 1)) ⟨j + 1, OkC_sc (e' := j + 1) C.1 Rw f2 (by rw [zI_wI, if_pos ⟨rfl, rfl⟩]), NpC_fr f2 (nW _) Nw, ?_⟩ (by show (k + 4 - zI (wI w' (b 1) 9 (j + 1)) (b 1) 9).toNat < (k + 4 - zI w' (b 1) 9).toNat; rw [zI_wI, if_pos ⟨rfl, rfl⟩, w9]; omega)
            show (j + 1 = k + 1 ∧ x3 * 10 + bt t j - 48 = 0) ∨ (j + 1 = k + 2 ∧ x3 * 10 + bt t j - 48 = bt t (k + 1) - 48) ∨ (j + 1 = k + 3 ∧ x3 * 10 + bt t j - 48 = (bt t (k + 1) - 48) * 10 + bt t (k + 2) - 48 ∧ dgB (bt t (k + 2)) = true)
            rcases hj with ⟨rfl, rfl⟩ | ⟨rfl, rfl⟩ | ⟨e, -⟩
            · right; left; exact ⟨by omega, by omega⟩
            · right; right; exact ⟨by omega, rfl, dj⟩
            · omega
        · rw [if_pos rfl]
          exact ex dj
    · rw [if_pos rfl]
      rw [if_pos d1] at vv
      exact fl y1 (k + 1) (k + 1) R1 N1 (by omega) (by omega) vv
  · rw [if_neg (fun q' => c64 ((sb_i Cz (by decide) (by decide)).mp q'))]
    rw [if_neg c64] at vv
    exact hk _ _ _ vv R N
