/-! ===== the system's reader: the tape ===== -/
def wPs : WR := [(1, some 4), (1, some 5), (1, some 6), (1, some 7), (1, some 9), (1, some 10), (1, some 13), (1, some 14), (1, some 15), (1, some 16), (12, none)]
def TxC (t : Tx) (z : Z) (b : Nat → Nat) : Prop := CWz z b ∧ (zI z (b 1) 3 = t.2.2 ∧ zI z (b 1) 8 = t.2.1) ∧ (0 ≤ t.2.1 ∧ t.2.1 ≤ t.2.2 ∧ t.2.2 ≤ 400) ∧ ∀ k, 0 ≤ k → k < t.2.1 → zI z (b 11) k = w8 (t.1 k) ∧ 0 ≤ t.1 k ∧ t.1 k ≤ 255
theorem w8_hi : ∀ n : Nat, n < 256 → w8 (n : Int) = if n < 128 then (n : Int) else (n : Int) - 256 := by decide +kernel
/-- a byte as the system sees it -/
def sbt (t : Tx) (k : Int) : Int := if 0 ≤ k ∧ k < t.2.1 then w8 (t.1 k) else 0
theorem sb_v {t : Tx} {z : Z} {b : Nat → Nat} (C : TxC t z b) (k : Int) : (sbt t k = bt t k ∧ 0 ≤ bt t k ∧ bt t k ≤ 127) ∨ (sbt t k < 0 ∧ 128 ≤ bt t k ∧ bt t k ≤ 255) ∨ (sbt t k = 0 ∧ bt t k = -1) := by
  unfold sbt bt
  by_cases c : 0 ≤ k ∧ k < t.2.1
  · rw [if_pos c, if_pos c]
    obtain ⟨-, h0, h1⟩ := C.2.2.2 k c.1 c.2
    have e := w8_hi (t.1 k).toNat (by omega)
    rw [Int.toNat_of_nonneg h0] at e
    rw [e]
    split
    · next d => left; omega
    · next d => right; left; omega
  · rw [if_neg c, if_neg c]
    right; right; exact ⟨rfl, rfl⟩
theorem sb_i {t : Tx} {z : Z} {b : Nat → Nat} (C : TxC t z b) {k x : Int} (h0 : 1 ≤ x) (h1 : x ≤ 127) : sbt t k = x ↔ bt t k = x := by
  have := sb_v C k
  omega
theorem sb_d {t : Tx} {z : Z} {b : Nat → Nat} (C : TxC t z b) (k : Int) : dgP (sbt t k) ↔ dgB (bt t k) = true := by
  have := sb_v C k
  rw [dgB_i]; unfold dgP
  omega
theorem sb_l {t : Tx} {z : Z} {b : Nat → Nat} (C : TxC t z b) (k : Int) : (65 ≤ sbt t k ∧ sbt t k ≤ 90) ↔ leB (bt t k) = true := by
  have := sb_v C k
  rw [leB_i]
  omega
theorem sb_p {t : Tx} {z : Z} {b : Nat → Nat} (C : TxC t z b) (k : Int) : (32 ≤ sbt t k ∧ sbt t k ≤ 126) ↔ plB (bt t k) = true := by
  have := sb_v C k
  rw [plB_i]
  omega
theorem sb_is {t : Tx} {z : Z} {b : Nat → Nat} (C : TxC t z b) {k : Int} (h0 : 0 ≤ k) (h1 : k < t.2.1) : zI z (b 11) k = sbt t k := by unfold sbt; rw [if_pos ⟨h0, h1⟩]; exact (C.2.2.2 k h0 h1).1
theorem sb_r {t : Tx} {z : Z} {b : Nat → Nat} (C : TxC t z b) (k : Int) : -128 ≤ sbt t k ∧ sbt t k ≤ 127 := by
  unfold sbt
  split
  · next c =>
    obtain ⟨-, h0, h1⟩ := C.2.2.2 k c.1 c.2
    have e := w8_hi (t.1 k).toNat (by omega)
    rw [Int.toNat_of_nonneg h0] at e
    rw [e]
    split <;> omega
  · omega
theorem TxC_f {t : Tx} {z y : Z} {b : Nat → Nat} (f : FrZ (WB b wPs) z y) (C : TxC t z b) : TxC t y b := by
  obtain ⟨c1, ⟨c2, c3⟩, c4, c5⟩ := C
  refine ⟨CWz_fr c1 (WB_L f) (by decide), ⟨(bB c1 f (R := [(1, some 3)]) (by decide) (by decide) (wHas_i (by decide))).1.trans c2, (bB c1 f (R := [(1, some 8)]) (by decide) (by decide) (wHas_i (by decide))).1.trans c3⟩, c4, fun k h0 h1 => ?_⟩
  rw [(bB c1 f (R := [(11, none)]) (by decide) (by decide) (wHas_a (by decide))).1]; exact c5 k h0 h1
theorem o_byt {t : Tx} {z : Z} {b : Nat → Nat} {x : Int} {P : Int → Prop} (C : TxC t z b) (h : P (sbt t x)) : F_X5_byteAt (b 1) x z P := by
  obtain ⟨c1, ⟨c2, c3⟩, c4, c5⟩ := id C
  unfold F_X5_byteAt F_X5_byteAt_21 F_X5_byteAt_22
  have n0 : ¬ (0 ≤ x ∧ x < t.2.1) → sbt t x = 0 := fun n => by unfold sbt; rw [if_neg n]
  by_cases a : x < 0
  · rw [if_pos a]; rw [n0 (by omega)] at h; exact h
  · rw [if_neg a]
    refine ⟨cK c1 1 rfl rfl, ?_⟩
    rw [c3]
    by_cases d : t.2.1 ≤ x
    · rw [if_pos d]; rw [n0 (by omega)] at h; exact h
    · rw [if_neg d]
      refine ⟨b 11, cO c1 1 0 11 (by decide), cK c1 11 rfl rfl, by omega, by rw [cN c1 11 (c := 400) rfl rfl]; omega, ?_⟩
      rw [sb_is C (by omega) (by omega)]; exact h
theorem o_dig {t : Tx} {z : Z} {b : Nat → Nat} {k : Int} {P : Int → Prop} (C : TxC t z b) (hy : dgB (bt t k) = true → P 1) (hn : dgB (bt t k) = false → P 0) : F_X11_isDigit (sbt t k) P := o_isDigit (fun c => hy ((sb_d C k).mp c)) (fun c => hn ((bF (sb_d C k).symm).mpr c))
theorem o_let {t : Tx} {z : Z} {b : Nat → Nat} {k : Int} {P : Int → Prop} (C : TxC t z b) (hy : leB (bt t k) = true → P 1) (hn : leB (bt t k) = false → P 0) : F_X11_isLetter (sbt t k) P := by
  unfold F_X11_isLetter F_X11_isLetter_16 F_X11_isLetter_17
  have e := sb_l C k
  by_cases c1 : sbt t k < 65
  · rw [if_pos c1]; exact ⟨z1_0, hn ((bF e.symm).mpr (by omega))⟩
  · rw [if_neg c1]
    by_cases c2 : 90 < sbt t k
    · rw [if_pos c2]; exact ⟨z1_0, hn ((bF e.symm).mpr (by omega))⟩
    · rw [if_neg c2]; exact ⟨z1_1, hy (e.mp (by omega))⟩
theorem o_pln {t : Tx} {z : Z} {b : Nat → Nat} {k : Int} {P : Int → Prop} (C : TxC t z b) (hy : plB (bt t k) = true → P 1) (hn : plB (bt t k) = false → P 0) : F_X11_isPlain (sbt t k) P := by
  unfold F_X11_isPlain F_X11_isPlain_16 F_X11_isPlain_17
  have e := sb_p C k
  by_cases c1 : sbt t k < 32
  · rw [if_pos c1]; exact ⟨z1_0, hn ((bF e.symm).mpr (by omega))⟩
  · rw [if_neg c1]
    by_cases c2 : 126 < sbt t k
    · rw [if_pos c2]; exact ⟨z1_0, hn ((bF e.symm).mpr (by omega))⟩
    · rw [if_neg c2]; exact ⟨z1_1, hy (e.mp (by omega))⟩
/-! the reader's states -/
def PcF (b : Nat → Nat) (z0 : Z) (I J : Nat → Prop) (z : Z) : Prop := FrZ (WB b wPs) z0 z ∧ GrI z0 I J ∧ Frz z b J
def OkC (b : Nat → Nat) (z0 : Z) (I J : Nat → Prop) (z : Z) (e : Int) (ps : List Prt) (lt : Int × Int) : Prop := PcF b z0 I J z ∧ (zI z (b 1) 4 = 0 ∧ zI z (b 1) 5 = -1) ∧ (zI z (b 1) 6 = lt.1 ∧ (lt.1 ≠ 0 → zI z (b 1) 7 = lt.2)) ∧ (zI z (b 1) 9 = e ∧ zI z (b 1) 10 = (ps.length : Int)) ∧ ∀ i : Nat, i < ps.length → ∃ a, zO z (b 12) i = some a ∧ J a ∧ zK z a = 5 ∧ zI z a 0 = (ps.getD i pd0).1 ∧ (lt.1 = 0 → PrtC z J a (ps.getD i pd0))
def FlC (t : Tx) (b : Nat → Nat) (z0 : Z) (I : Nat → Prop) (z : Z) (k p : Int) : Prop := ∃ J, PcF b z0 I J z ∧ (zI z (b 1) 4 = k ∧ zI z (b 1) 5 = p ∧ 0 < k) ∧ (0 ≤ zI z (b 1) 9 ∧ zI z (b 1) 9 ≤ t.2.1) ∧ ∃ n : Nat, zI z (b 1) 10 = (n : Int) ∧ n ≤ 400 ∧ ∀ i : Nat, i < n → ∃ a, zO z (b 12) i = some a ∧ zK z a = 5
def PoC (t : Tx) (b : Nat → Nat) (z0 : Z) (I : Nat → Prop) (r : PR) (z : Z) : Prop := match r with
  | .inl e => FlC t b z0 I z e.1 e.2
  | .inr s => (∃ J e, OkC b z0 I J z e s.2.1 s.2.2 ∧ skp t e = s.1 ∧ 0 ≤ e ∧ e ≤ t.2.1) ∨ (bt t s.1 = 58 ∧ FlC t b z0 I z 1 s.1)
/-- what a write may touch: cells that were not there, and are not fixed -/
theorem OkC_fr {b : Nat → Nat} {z0 : Z} {I J : Nat → Prop} {z y : Z} {e : Int} {ps : List Prt} {lt : Int × Int} {W : Nat → Int → Prop} (c : CWz z0 b) (R : OkC b z0 I J z e ps lt) (f : FrZ W z y) (hW : ∀ a i, W a i → zK z0 a = 0 ∧ ¬ J a) : OkC b z0 I J y e ps lt := by
  obtain ⟨⟨r1, r2, r3⟩, ⟨r4, r5⟩, ⟨r6, r7⟩, ⟨r8, r9⟩, r10⟩ := R
  have k0 : ∀ k, k < 35 → zK z0 (b k) ≠ 0 := fun k hk => by rw [(c.1 k hk).1]; exact (ckz_k k hk).2.2
  have kz : ∀ k, k < 35 → zK z (b k) ≠ 0 := fun k hk => by rw [(r1.1 (b k) (k0 k hk)).1]; exact k0 k hk
  have nb : ∀ k, k < 35 → ∀ i, ¬ W (b k) i := fun k hk i h => k0 k hk (hW _ _ h).1
  have e1 : ∀ i, zI y (b 1) i = zI z (b 1) i := fun i => (f.2 (b 1) i (kz 1 (by decide)) (nb 1 (by decide) i)).1
  have e12 : ∀ i, zO y (b 12) i = zO z (b 12) i := fun i => (f.2 (b 12) i (kz 12 (by decide)) (nb 12 (by decide) i)).2.2
  have wJ : ∀ a i, J a → ¬ W a i := fun a i ja h => (hW a i h).2 ja
  refine ⟨⟨?_, r2, Frz_fr r3 f⟩, ⟨(e1 4).trans r4, (e1 5).trans r5⟩, ⟨(e1 6).trans r6, fun n => (e1 7).trans (r7 n)⟩, ⟨(e1 9).trans r8, (e1 10).trans r9⟩, fun i hi => ?_⟩
  · refine ⟨fun a ha => ?_, fun a i ha hn => ?_⟩
    · obtain ⟨p1, p2⟩ := r1.1 a ha
      obtain ⟨q1, q2⟩ := f.1 a (by rw [p1]; exact ha)
      exact ⟨q1.trans p1, q2.trans p2⟩
    · obtain ⟨p1, p2, p3⟩ := r1.2 a i ha hn
      obtain ⟨q1, q2, q3⟩ := f.2 a i (by rw [(r1.1 a ha).1]; exact ha) (fun h => ha (hW a i h).1)
      exact ⟨q1.trans p1, q2.trans p2, q3.trans p3⟩
  · obtain ⟨a, g1, g2, g3, g4, g5⟩ := r10 i hi
    have ka : zK z a ≠ 0 := by rw [g3]; decide
    exact ⟨a, (e12 i).trans g1, g2, (f.1 a ka).1.trans g3, (f.2 a 0 ka (wJ a 0 g2)).1.trans g4, fun l0 => PrtC_fr f wJ (g5 l0)⟩
def wSc : WR := [(1, some 9), (1, some 13), (1, some 14), (1, some 15), (1, some 16)]
/-- scratch fields and the place -/
theorem OkC_sc {b : Nat → Nat} {z0 : Z} {I J : Nat → Prop} {z y : Z} {e e' : Int} {ps : List Prt} {lt : Int × Int} (c : CWz z0 b) (R : OkC b z0 I J z e ps lt) (f : FrZ (WB b wSc) z y) (he : zI y (b 1) 9 = e') : OkC b z0 I J y e' ps lt := by
  obtain ⟨⟨r1, r2, r3⟩, ⟨r4, r5⟩, ⟨r6, r7⟩, ⟨r8, r9⟩, r10⟩ := R
  have cz : CWz z b := CWz_fr c (WB_L r1) (by decide)
  have wJ : ∀ a i, J a → ¬ WB b wSc a i := fun a i ja h => by
    obtain ⟨t, t1, t2, t3, t4⟩ := h
    exact (r3 a ja).2.2.2 t.1 t2 t3
  refine ⟨⟨FrZ_tr r1 (WB_s (by decide) f), r2, Frz_fr r3 f⟩, ⟨(bB cz f (R := [(1, some 4)]) (by decide) (by decide) (wHas_i (by decide))).1.trans r4, (bB cz f (R := [(1, some 5)]) (by decide) (by decide) (wHas_i (by decide))).1.trans r5⟩, ⟨(bB cz f (R := [(1, some 6)]) (by decide) (by decide) (wHas_i (by decide))).1.trans r6, fun n => (bB cz f (R := [(1, some 7)]) (by decide) (by decide) (wHas_i (by decide))).1.trans (r7 n)⟩, ⟨he, (bB cz f (R := [(1, some 10)]) (by decide) (by decide) (wHas_i (by decide))).1.trans r9⟩, fun i hi => ?_⟩
  obtain ⟨a, g1, g2, g3, g4, g5⟩ := r10 i hi
  have ka : zK z a ≠ 0 := by rw [g3]; decide
  exact ⟨a, (bB cz f (R := [(12, none)]) (by decide) (by decide) (wHas_a (by decide))).2.2.trans g1, g2, (f.1 a ka).1.trans g3, (f.2 a 0 ka (wJ a 0 g2)).1.trans g4, fun l0 => PrtC_fr f wJ (g5 l0)⟩
theorem FlC_sc {t : Tx} {b : Nat → Nat} {z0 : Z} {I : Nat → Prop} {z y : Z} {k p : Int} (c : CWz z0 b) (R : FlC t b z0 I z k p) (f : FrZ (WB b wSc) z y) (he : 0 ≤ zI y (b 1) 9 ∧ zI y (b 1) 9 ≤ t.2.1) : FlC t b z0 I y k p := by
  obtain ⟨J, ⟨r1, r2, r3⟩, ⟨r4, r5, r6⟩, r7, n, r8, r9, r10⟩ := R
  have cz : CWz z b := CWz_fr c (WB_L r1) (by decide)
  refine ⟨J, ⟨FrZ_tr r1 (WB_s (by decide) f), r2, Frz_fr r3 f⟩, ⟨(bB cz f (R := [(1, some 4)]) (by decide) (by decide) (wHas_i (by decide))).1.trans r4, (bB cz f (R := [(1, some 5)]) (by decide) (by decide) (wHas_i (by decide))).1.trans r5, r6⟩, he, n, (bB cz f (R := [(1, some 10)]) (by decide) (by decide) (wHas_i (by decide))).1.trans r8, r9, fun i hi => ?_⟩
  obtain ⟨a, g1, g2⟩ := r10 i hi
  exact ⟨a, (bB cz f (R := [(12, none)]) (by decide) (by decide) (wHas_a (by decide))).2.2.trans g1, (f.1 a (by rw [g2]; decide)).1.trans g2⟩
theorem TxC_o {t : Tx} {b : Nat → Nat} {z0 : Z} {I J : Nat → Prop} {z : Z} {e : Int} {ps : List Prt} {lt : Int × Int} (C : TxC t z0 b) (R : OkC b z0 I J z e ps lt) : TxC t z b := TxC_f R.1.1 C
theorem TxC_l {t : Tx} {b : Nat → Nat} {z0 : Z} {I : Nat → Prop} {z : Z} {k p : Int} (C : TxC t z0 b) (R : FlC t b z0 I z k p) : TxC t z b := by
  obtain ⟨J, ⟨r1, -⟩, -⟩ := R
  exact TxC_f r1 C
/-- blanks -/
theorem o_skip {t : Tx} {z : Z} {b : Nat → Nat} {e : Int} {P : Z → Prop} (C : TxC t z b) (he : zI z (b 1) 9 = e) (e0 : 0 ≤ e) (e1 : e ≤ t.2.1) (h : ∀ y, FrZ (WB b wSc) z y → zI y (b 1) 9 = skp t e → P y) : F_X5_skipBlanks (b 1) z P := by
  have b3 := C.2.2.1
  unfold F_X5_skipBlanks F_X5_skipBlanks_0 F_X5_skipBlanks_38
  refine lp_I (fun y => FrZ (WB b wSc) z y ∧ ∃ j, zI y (b 1) 9 = j ∧ (e ≤ j ∧ j ≤ t.2.1) ∧ skp t j = skp t e) (fun y => (t.2.1 - zI y (b 1) 9).toNat) ?_ z ⟨FrZ_rf, e, he, ⟨Int.le_refl e, e1⟩, rfl⟩
  rintro G y ⟨fy, j, y9, ⟨j0, j1⟩, ej⟩ ih
  have Cy : TxC t y b := TxC_f (WB_s (by decide) fy) C
  have c := Cy.1
  unfold L_X5_skipBlanks_0
  refine ⟨cK c 1 rfl rfl, ?_⟩
  rw [y9, Cy.2.1.2]
  have fin : bt t j ≠ 32 → P y := fun n => h y fy (by rw [y9, ← ej]; exact (skp_0 n).symm)
  by_cases c1 : t.2.1 ≤ j
  · rw [if_pos c1]
    exact fin (by rw [bt_out (by omega)]; decide)
  · rw [if_neg c1]
    refine ⟨b 11, cO c 1 0 11 (by decide), cK c 11 rfl rfl, by omega, by rw [cN c 11 (c := 400) rfl rfl]; omega, ?_⟩
    rw [sb_is Cy (by omega) (by omega)]
    by_cases c32 : bt t j = 32
    · rw [if_pos ((sb_i Cy (by decide) (by decide)).mpr c32), w32e (by omega) (by omega)]
      rintro _ rfl
      refine ih _ ⟨FrZ_wI fy (Or.inl (WB_i (by decide) (by decide))), j + 1, by rw [zI_wI, if_pos ⟨rfl, rfl⟩], ⟨by omega, by omega⟩, ?_⟩ (by rw [zI_wI, if_pos ⟨rfl, rfl⟩, y9]; omega)
      rw [← ej]; exact (rn_1 (t := t) blB_n (by omega) (blB_i.mpr c32)).symm
    · rw [if_neg (fun q => c32 ((sb_i Cy (by decide) (by decide)).mp q))]
      exact fin c32
theorem o_fail {t : Tx} {b : Nat → Nat} {z0 : Z} {I J : Nat → Prop} {z : Z} {e k p : Int} {ps : List Prt} {lt : Int × Int} {P : Z → Prop} (c : CWz z0 b) (R : OkC b z0 I J z e ps lt) (hk : 0 < k) (e0 : 0 ≤ e ∧ e ≤ t.2.1) (hl : ps.length ≤ 400) (h : ∀ y, FlC t b z0 I y k p → P y) : F_X5_fail (b 1) k p z P := by
  obtain ⟨⟨r1, r2, r3⟩, ⟨r4, r5⟩, ⟨r6, r7⟩, ⟨r8, r9⟩, r10⟩ := R
  have cz : CWz z b := CWz_fr c (WB_L r1) (by decide)
  unfold F_X5_fail F_X5_fail_17
  refine ⟨cK cz 1 rfl rfl, ?_⟩
  rw [if_pos r4]
  rintro _ rfl _ rfl
  have f : FrZ (WB b [(1, some 4), (1, some 5)]) z (wI (wI z (b 1) 4 k) (b 1) 5 p) := FrZ_wI (FrZ_wI FrZ_rf (Or.inl (WB_i (by decide) (by decide)))) (Or.inl (WB_i (by decide) (by decide)))
  refine h _ ⟨J, ⟨FrZ_tr r1 (WB_s (by decide) f), r2, Frz_fr r3 f⟩, ⟨by rw [zI_wI, if_neg (by omega), zI_wI, if_pos ⟨rfl, rfl⟩], by rw [zI_wI, if_pos ⟨rfl, rfl⟩], hk⟩, ?_, ps.length, ?_, hl, fun i hi => ?_⟩
  · rw [(bB cz f (R := [(1, some 9)]) (by decide) (by decide) (wHas_i (by decide))).1, r8]; exact e0
  · exact (bB cz f (R := [(1, some 10)]) (by decide) (by decide) (wHas_i (by decide))).1.trans r9
  · obtain ⟨a, g1, g2, g3, -⟩ := r10 i hi
    exact ⟨a, (bB cz f (R := [(12, none)]) (by decide) (by decide) (wHas_a (by decide))).2.2.trans g1, (f.1 a (by rw [g3]; decide)).1.trans g3⟩
theorem o_failF {b : Nat → Nat} {z : Z} {k p : Int} {P : Z → Prop} (c : CWz z b) (h4 : 0 < zI z (b 1) 4) (h : P z) : F_X5_fail (b 1) k p z P := by
  unfold F_X5_fail F_X5_fail_17
  refine ⟨cK c 1 rfl rfl, ?_⟩
  rw [if_neg (by omega)]; exact h
theorem o_addF {b : Nat → Nat} {z : Z} {x1 x2 : Int} {x3 : Option Nat} {c' s' : Nat} {P : Z → Prop} (c : CWz z b) (h4 : 0 < zI z (b 1) 4) (h : P z) : F_X5_addPart (b 1) x1 x2 x3 z c' s' P := by
  unfold F_X5_addPart F_X5_addPart_48
  refine ⟨cK c 1 rfl rfl, ?_⟩
  rw [if_neg (by omega)]; exact h
theorem o_peo {t : Tx} {b : Nat → Nat} {z : Z} {P : Int → Prop} (C : TxC t z b) (h : P (peo t (zI z (b 1) 9))) : F_X5_placeOrEnd (b 1) z P := by
  unfold F_X5_placeOrEnd F_X5_placeOrEnd_22
  refine ⟨cK C.1 1 rfl rfl, ?_⟩
  rw [C.2.1.1, C.2.1.2]
  unfold peo at h
  by_cases c : t.2.1 ≤ zI z (b 1) 9
  · rw [if_pos c]; rw [if_neg (by omega)] at h; exact h
  · rw [if_neg c]; rw [if_pos (by omega)] at h; exact h
/-- a part that is made is put behind the others -/
theorem OkC_put {b : Nat → Nat} {z0 : Z} {I J : Nat → Prop} {z y : Z} {e : Int} {ps : List Prt} {lt : Int × Int} {q : Nat} {p : Prt} (c : CWz z0 b) (R : OkC b z0 I J z e ps lt) (nq : zK z0 q = 0) (kq : zK z q = 5) (op : zI z q 0 = p.1) (J2 : Nat → Prop) (hJ : ∀ a, J a → J2 a) (jq : J2 q) (fJ : ∀ a, J2 a → J a ∨ (zK z0 a = 0 ∧ zK z a ≠ 0 ∧ zK z a ≠ 7 ∧ zK z a ≠ 1)) (hp : lt.1 = 0 → PrtC z J2 q p) (ey : y = wI (wO z (b 12) (ps.length : Int) (some q)) (b 1) 10 ((ps.length : Int) + 1)) : OkC b z0 I J2 y e (ps ++ [p]) lt := by
  obtain ⟨⟨r1, r2, r3⟩, ⟨r4, r5⟩, ⟨r6, r7⟩, ⟨r8, r9⟩, r10⟩ := R
  have cz : CWz z b := CWz_fr c (WB_L r1) (by decide)
  have f : FrZ (WB b [(12, none), (1, some 10)]) z y := by rw [ey]; exact FrZ_wI (FrZ_wO FrZ_rf (Or.inl (WB_a (by decide) (by decide)))) (Or.inl (WB_i (by decide) (by decide)))
  have ne : b 12 ≠ b 1 := cNe cz rfl rfl rfl
  have k0 : ∀ k, k < 35 → zK z0 (b k) ≠ 0 := fun k hk => by rw [(c.1 k hk).1]; exact (ckz_k k hk).2.2
  have r3' : Frz z b J2 := by
    intro a ha
    rcases fJ a ha with h | ⟨h0, h1, h2, h3⟩
    · exact r3 a h
    · exact ⟨h1, h2, h3, fun k hk e => k0 k hk (by rw [← e]; exact h0)⟩
  have wJ : ∀ a i, J2 a → ¬ WB b [(12, none), (1, some 10)] a i := fun a i ja h => by
    obtain ⟨t, t1, t2, t3, t4⟩ := h
    exact (r3' a ja).2.2.2 t.1 t2 t3
  have PrtJ : ∀ a p', PrtC z J a p' → PrtC z J2 a p' := by
    rintro a p' ⟨g1, g2, g3, g4, g5, g6⟩
    refine ⟨hJ a g1, g2, g3, g4, ?_, g6⟩
    revert g5
    cases p'.2.2.1 with
    | none => exact id
    | some l => rintro ⟨v, v1, v2, v3, v4, ba, v5, v6, v7⟩; exact ⟨v, v1, hJ v v2, v3, v4, ba, v5, hJ ba v6, v7⟩
  refine ⟨⟨FrZ_tr r1 (WB_s (by decide) f), ⟨fun a h => hJ a (r2.1 a h), fun a h => (fJ a h).elim (r2.2 a) (fun e => Or.inr e.1)⟩, Frz_fr r3' f⟩, ⟨(bB cz f (R := [(1, some 4)]) (by decide) (by decide) (wHas_i (by decide))).1.trans r4, (bB cz f (R := [(1, some 5)]) (by decide) (by decide) (wHas_i (by decide))).1.trans r5⟩, ⟨(bB cz f (R := [(1, some 6)]) (by decide) (by decide) (wHas_i (by decide))).1.trans r6, fun n => (bB cz f (R := [(1, some 7)]) (by decide) (by decide) (wHas_i (by decide))).1.trans (r7 n)⟩, ⟨(bB cz f (R := [(1, some 9)]) (by decide) (by decide) (wHas_i (by decide))).1.trans r8, ?_⟩, fun i hi => ?_⟩
  · rw [ey, zI_wI, if_pos ⟨rfl, rfl⟩, List.length_append, List.length_singleton]; omega
  · rw [List.length_append, List.length_singleton] at hi
    by_cases ci : i < ps.length
    · obtain ⟨a, g1, g2, g3, g4, g5⟩ := r10 i ci
      have ka : zK z a ≠ 0 := by rw [g3]; decide
      rw [gP_l ci]
      refine ⟨a, ?_, hJ a g2, (f.1 a ka).1.trans g3, (f.2 a 0 ka (wJ a 0 (hJ a g2))).1.trans g4, fun l0 => PrtC_fr f wJ (PrtJ a _ (g5 l0))⟩
      rw [ey]
      show zO (wO z (b 12) (ps.length : Int) (some q)) (b 12) i = some a
      rw [zO_wO, if_neg (by omega)]; exact g1
    · have ei : i = ps.length := by omega
      rw [ei, gP_e]
      have kq0 : zK z q ≠ 0 := by rw [kq]; decide
      refine ⟨q, ?_, jq, (f.1 q kq0).1.trans kq, (f.2 q 0 kq0 (wJ q 0 jq)).1.trans op, fun l0 => PrtC_fr f wJ (hp l0)⟩
      rw [ey]
      show zO (wO z (b 12) (ps.length : Int) (some q)) (b 12) (ps.length : Int) = some q
      rw [zO_wO, if_pos ⟨rfl, rfl⟩]
