/-! ===== the system's rows of the parser ===== -/
def bgC (r : PR) (a : Int) (c : Nat) : Nat := match r with
  | .inl _ => c
  | .inr p => (3 * (p.1 - a)).toNat
def bgS (r : PR) (a : Int) (s : Nat) : Nat := match r with
  | .inl _ => s
  | .inr p => (14 * (p.1 - a)).toNat
def CwE (t : Tx) (S : SS) (b : Nat → Nat) (I : Nat → Prop) (z0 : Z) (n : Nat) : Prop := ∀ (l : Nat), 1 ≤ l → l ≤ 5 → ∀ (o : Int) (st : PS) (N : Nat), (0 ≤ o ∧ o ≤ 20) → 12 * (20 - o) + (12 - (l : Int)) ≤ (N : Int) → gdP ((pg t S n).1 (l : Int) o st) → ∀ z c s P, PrC t b z0 I z st → RmC ((pg t S n).1 (l : Int) o st) t.2.1 st.1 c s → (∀ y, PoC t b z0 I ((pg t S n).1 (l : Int) o st) y → P y) → F_X5_expression N (b 1) (l : Int) o z c s P
def CwS (t : Tx) (S : SS) (b : Nat → Nat) (I : Nat → Prop) (z0 : Z) (n : Nat) : Prop := ∀ (o : Int) (st : PS) (N : Nat), (0 ≤ o ∧ o ≤ 20) → 12 * (20 - o) + 6 ≤ (N : Int) → gdP ((pg t S n).2.1 o st) → ∀ z c s P, PrC t b z0 I z st → RmC ((pg t S n).2.1 o st) t.2.1 st.1 c s → (∀ y, PoC t b z0 I ((pg t S n).2.1 o st) y → P y) → F_X5_signed N (b 1) o z c s P
def bdE (b : Nat → Nat) (N : Nat) (l o : Int) : Int × Int × Z × Nat × Nat → ((Int × Int × Z × Nat × Nat) ⊕ ((Z × Nat × Nat) ⊕ (Z × Nat × Nat)) → Prop) → Prop := fun q P_ => L_X5_expression_10 (F_X5_args N) (F_X5_atom N) (F_X5_bracketed N) (F_X5_expression N) (F_X5_signed N) (F_X5_word N) (b 1) l o q.1 q.2.1 q.2.2.1 q.2.2.2.1 q.2.2.2.2 P_
theorem bdE_i {b : Nat → Nat} {N : Nat} {l o x3 x4 : Int} {z : Z} {c s : Nat} {Q : (Int × Int × Z × Nat × Nat) ⊕ ((Z × Nat × Nat) ⊕ (Z × Nat × Nat)) → Prop} (h : L_X5_expression_10 (F_X5_args N) (F_X5_atom N) (F_X5_bracketed N) (F_X5_expression N) (F_X5_signed N) (F_X5_word N) (b 1) l o x3 x4 z c s Q) : bdE b N l o (x3, x4, z, c, s) Q := h
def kE (P : Z → Prop) (K : (Z × Nat × Nat) ⊕ (Z × Nat × Nat) → Prop) : Prop := ∀ y c s, P y → K (.inl (y, c, s)) ∧ K (.inr (y, c, s))
def fl1 (f : Bool) : Int := if f = true then 1 else 0
def CwL (t : Tx) (S : SS) (b : Nat → Nat) (I : Nat → Prop) (z0 : Z) (n : Nat) : Prop := ∀ (l : Nat), 1 ≤ l → l ≤ 5 → ∀ (o : Int) (f : Bool) (st : PS) (ps0 : List Prt) (N : Nat) (x4 : Int), (0 ≤ o ∧ o ≤ 20) → 12 * (20 - o) + (11 - (l : Int)) ≤ (N : Int) → Seg ps0 st.2.1 → lastO st.2.1 ≠ 17 → (0 ≤ x4 ∧ x4 ≤ st.1) → gdP ((pg t S n).2.2.1 (l : Int) o f st) → ∀ z c s P K, kE P K → PoC t b z0 I (.inr st) z → (st.1 ≤ t.2.1 ∧ bt t st.1 ≠ 32) → (st.2.1.length : Int) ≤ st.1 → RmC ((pg t S n).2.2.1 (l : Int) o f st) t.2.1 st.1 c s → (∀ y, PoC t b z0 I ((pg t S n).2.2.1 (l : Int) o f st) y → P y) → ∀ cnt, (t.2.1 - st.1).toNat + 2 ≤ cnt → itr (bdE b N (l : Int) o) K cnt (fl1 f, x4, z, c, s)
theorem bdE_F {t : Tx} {b : Nat → Nat} {z0 : Z} {I : Nat → Prop} {N : Nat} {l o x3 x4 : Int} {z : Z} {c s : Nat} {k p : Int} {P : Z → Prop} {K : (Z × Nat × Nat) ⊕ (Z × Nat × Nat) → Prop} (C : TxC t z0 b) (F : FlC t b z0 I z k p) (hK : kE P K) (h : P z) : ∀ cnt, 1 ≤ cnt → itr (bdE b N l o) K cnt (x3, x4, z, c, s)
  | 0, h0 => by omega
  | cnt + 1, _ => by
    show bdE b N l o (x3, x4, z, c, s) _
    refine bdE_i ?_
    unfold L_X5_expression_10
    have f4 := FlC_4 F
    by_cases c4 : 400 ≤ x4
    · rw [if_pos c4]; exact (hK z c s h).1
    · rw [if_neg c4]
      refine ⟨cK (TxC_l C F).1 1 rfl rfl, ?_⟩
      rw [if_neg (by omega)]; exact (hK z c s h).1
theorem sg_w {x : Int} (h0 : 1 ≤ x) (h1 : x ≤ 12) : (sCh 9 ((x - 1) * 2 + 1) = 32 → sgN x = 1) ∧ (sCh 9 ((x - 1) * 2 + 1) ≠ 32 → sgN x = 2) := by
  have t := (s9_t.2 (x - 1).toNat (by omega)).2
  rw [show ((2 * (x - 1).toNat + 1 : Nat) : Int) = (x - 1) * 2 + 1 by omega] at t
  have e : x = 1 ∨ x = 2 ∨ x = 3 ∨ x = 4 ∨ x = 5 ∨ x = 6 ∨ x = 7 ∨ x = 8 ∨ x = 9 ∨ x = 10 ∨ x = 11 ∨ x = 12 := by omega
  rw [t]
  unfold sgN
  rcases e with rfl | rfl | rfl | rfl | rfl | rfl | rfl | rfl | rfl | rfl | rfl | rfl <;> decide
theorem rm_bg {r : PR} {en a : Int} {c s : Nat} (h : RmC r en a c s) : RmC r en a (bgC r a c) (bgS r a s) := by
  cases r with
  | inl e => exact h
  | inr p => exact ⟨by show 3 * (p.1 - a) ≤ (((3 * (p.1 - a)).toNat : Nat) : Int); omega, by show 14 * (p.1 - a) ≤ (((14 * (p.1 - a)).toNat : Nat) : Int); omega⟩
theorem o_opA {t : Tx} {S : SS} {b : Nat → Nat} {z0 : Z} {I : Nat → Prop} {z : Z} {s1 : PS} {op n : Int} {c' s' : Nat} {P : Z → Prop} (E : EnC t S b I z0) (h1 : PoC t b z0 I (.inr s1) z) (hl : s1.2.1.length < 400) (hc : 1 ≤ c') (hs : 9 ≤ s') (h : ∀ y, PoC t b z0 I (.inr (addP (opP op n) s1.1 s1)) y → P y) : F_X5_addPart (b 1) op n none z c' s' P := by
  have C := E.1
  rcases h1 with ⟨J, e, R, he, e0, e1⟩ | ⟨c58, F⟩
  · exact o_add (lo := none) (J1 := J) C R hl hc hs (fun _ j => j) (fun _ j => Or.inl j) rfl (fun y J2 R2 => h y (Or.inl ⟨J2, e, R2, he, e0, e1⟩))
  · exact o_addF (TxC_l C F).1 (FlC_4 F) (h z (Or.inr ⟨c58, F⟩))
theorem z6_o {t : Tx} {S : SS} {b : Nat → Nat} {z0 : Z} {I : Nat → Prop} {z : Z} {r : PR} (E : EnC t S b I z0) (h : PoC t b z0 I r z) : CWz z b := by
  cases r with
  | inl e => exact (TxC_l E.1 h).1
  | inr p =>
    rcases h with ⟨J, e, R, -⟩ | ⟨-, F⟩
    · exact (TxC_o E.1 R).1
    · exact (TxC_l E.1 F).1
theorem CwL_s {t : Tx} {S : SS} {b : Nat → Nat} {I : Nat → Prop} {z0 : Z} {n : Nat} (E : EnC t S b I z0) (G : PgO t S (pg t S n)) (HE : CwE t S b I z0 n) (HL : CwL t S b I z0 n) : CwL t S b I z0 (n + 1) := by
  intro l l1 l5 o f st ps0 N x4 ho hN sg l17 hx4 gd z c s P K hK start hst len rm h cnt hcnt
  have C := E.1
  have b3 := C.2.2.1
  have er : (pg t S (n + 1)).2.2.1 (l : Int) o f st = bLo t (pg t S n) l o f st := rfl
  rw [er] at gd rm h
  unfold bLo at gd rm h
  have stop : (sgO t st.1 = 0 ∨ bnd (sgO t st.1) < (l : Int) ∨ (f = true ∧ bnd (sgO t st.1) = 1)) → ∀ y, PoC t b z0 I (.inr st) y → P y := fun cc y hy => h y (by rw [if_pos cc]; exact hy)
  cases cnt with
  | zero => omega
  | succ cnt =>
  show bdE b N (l : Int) o (fl1 f, x4, z, c, s) _
  refine bdE_i ?_
  unfold L_X5_expression_10
  by_cases c400 : 400 ≤ x4
  · rw [if_pos c400]
    exact (hK z c s (stop (Or.inl (sgO_z (Or.inr (Or.inr (Or.inr (Or.inr (Or.inr (bt_out (by omega))))))))) z start)).1
  rw [if_neg c400]
  refine ⟨cK (z6_o E start) 1 rfl rfl, ?_⟩
  rcases start with ⟨J, e, R, he, e0, e1⟩ | ⟨c58, F⟩
  · rw [if_pos R.2.1.1]
    refine o_skip (TxC_o C R) R.2.2.2.1.1 e0 e1 (fun y fy y9 => ?_)
    rw [he] at y9
    have Ry := OkC_sc (e' := st.1) C.1 R fy y9
    have Cy := TxC_o C Ry
    have ok1 : PoC t b z0 I (.inr st) y := Or.inl ⟨J, st.1, Ry, skp_0 hst.2, by have := skp_b (t := t) e0 e1; omega, hst.1⟩
    have st0 : 0 ≤ st.1 := by have := skp_b (t := t) e0 e1; omega
    refine ⟨cK Cy.1 1 rfl rfl, o_sg2 Cy y9 ⟨st0, by omega⟩ ?_⟩
    by_cases s0 : sgO t st.1 = 0
    · rw [if_pos s0]
      exact (hK y c s (stop (Or.inl s0) y ok1)).2
    rw [if_neg s0]
    have sr := sg_r s0
    have bb := bnd_b sr
    have sn := sgO_n s0
    refine o_binds ?_
    by_cases bl : bnd (sgO t st.1) < (l : Int)
    · rw [if_pos bl]
      exact (hK y c s (stop (Or.inr (Or.inl bl)) y ok1)).2
    rw [if_neg bl]
    by_cases cf : f = true ∧ bnd (sgO t st.1) = 1
    · have e3 : fl1 f = 1 := by unfold fl1; rw [if_pos cf.1]
      rw [e3, if_neg (by decide)]
      refine o_binds ?_
      rw [if_pos cf.2]
      exact (hK y c s (stop (Or.inr (Or.inr cf)) y ok1)).2
    have cc : ¬ (sgO t st.1 = 0 ∨ bnd (sgO t st.1) < (l : Int) ∨ (f = true ∧ bnd (sgO t st.1) = 1)) := by
      rintro (q | q | q)
      · exact s0 q
      · exact bl q
      · exact cf q
    rw [if_neg cc] at gd rm h
    clear stop
    -- one more
    have kb := skp_b (t := t) (k := st.1 + sgN (sgO t st.1)) (by omega) sn.2.1
    have eb : bnd (sgO t st.1) + 1 = (((bnd (sgO t st.1)).toNat + 1 : Nat) : Int) := by omega
    rw [eb] at gd rm h
    generalize hr1 : (pg t S n).1 (((bnd (sgO t st.1)).toNat + 1 : Nat) : Int) o (skp t (st.1 + sgN (sgO t st.1)), st.2) = r1 at gd rm h
    have gd1 : gdP ((pg t S n).1 (((bnd (sgO t st.1)).toNat + 1 : Nat) : Int) o (skp t (st.1 + sgN (sgO t st.1)), st.2)) := by rw [hr1]; exact gd_rb gd
    have sp := Seg_p sg
    have pos : ∀ s1, r1 = .inr s1 → PoS t S.2.1.1 st.2.1 (skp t (st.1 + sgN (sgO t st.1)), st.2) s1 ∧ skp t (st.1 + sgN (sgO t st.1)) < s1.1 := by
      intro s1 e
      rw [e] at hr1
      exact G.1 _ _ (skp t (st.1 + sgN (sgO t st.1)), st.2) s1 ⟨⟨by show 0 ≤ skp t _; omega, kb.2.1⟩, sp.2.1⟩ hr1
    have sg2 : ∀ s1, r1 = .inr s1 → Seg ps0 (s1.2.1 ++ [opP (sgO t st.1) 2]) := fun s1 e => Seg_2 sg (pos s1 e).1.1.1 rfl (by show ¬ (14 ≤ sgO t st.1 ∧ _); omega)
    have lo2 : ∀ s1 : PS, lastO (s1.2.1 ++ [opP (sgO t st.1) 2]) ≠ 17 := fun s1 => by rw [lastO_snoc]; show sgO t st.1 ≠ 17; omega
    have mono : ∀ s1 s2, r1 = .inr s1 → (pg t S n).2.2.1 (l : Int) o (f || decide (bnd (sgO t st.1) = 1)) (addP (opP (sgO t st.1) 2) s1.1 s1) = .inr s2 → s1.1 ≤ s2.1 := by
      intro s1 s2 e e2
      have q := pos s1 e
      have := (G.2.2.1 _ _ _ (addP (opP (sgO t st.1) 2) s1.1 s1) s2 ps0 ⟨by show 0 ≤ s1.1; omega, q.1.2.1.1⟩ q.1.2.1.2 (sg2 s1 e) (lo2 s1) e2).2
      exact this
    have rm1 : RmC r1 t.2.1 (skp t (st.1 + sgN (sgO t st.1))) (bgC r1 (skp t (st.1 + sgN (sgO t st.1))) c) (bgS r1 (skp t (st.1 + sgN (sgO t st.1))) s) := by
      refine rm_bg ?_
      cases r1 with
      | inl e1' => exact ⟨by have := rm.1; omega, by have := rm.2; omega⟩
      | inr s1 =>
        have q := pos s1 rfl
        have q21 := q.1.2.1.1
        replace rm : RmC ((pg t S n).2.2.1 (l : Int) o (f || decide (bnd (sgO t st.1) = 1)) (addP (opP (sgO t st.1) 2) s1.1 s1)) t.2.1 st.1 c s := rm
        cases hr2 : (pg t S n).2.2.1 (l : Int) o (f || decide (bnd (sgO t st.1) = 1)) (addP (opP (sgO t st.1) 2) s1.1 s1) with
        | inl e2 => rw [hr2] at rm; exact ⟨by have := rm.1; omega, by have := rm.2; omega⟩
        | inr s2 =>
          rw [hr2] at rm
          have m := mono s1 s2 rfl hr2
          exact ⟨by have := rm.1; omega, by have := rm.2; omega⟩
    have bgle : bgC r1 (skp t (st.1 + sgN (sgO t st.1))) c ≤ c ∧ bgS r1 (skp t (st.1 + sgN (sgO t st.1))) s ≤ s := by
      cases r1 with
      | inl e1' => exact ⟨Nat.le_refl _, Nat.le_refl _⟩
      | inr s1 =>
        have q := pos s1 rfl
        have q21 := q.1.2.1.1
        replace rm : RmC ((pg t S n).2.2.1 (l : Int) o (f || decide (bnd (sgO t st.1) = 1)) (addP (opP (sgO t st.1) 2) s1.1 s1)) t.2.1 st.1 c s := rm
        show (3 * (s1.1 - skp t (st.1 + sgN (sgO t st.1)))).toNat ≤ c ∧ (14 * (s1.1 - skp t (st.1 + sgN (sgO t st.1)))).toNat ≤ s
        cases hr2 : (pg t S n).2.2.1 (l : Int) o (f || decide (bnd (sgO t st.1) = 1)) (addP (opP (sgO t st.1) 2) s1.1 s1) with
        | inl e2 => rw [hr2] at rm; have := rm.1; have := rm.2; omega
        | inr s2 =>
          rw [hr2] at rm
          have m := mono s1 s2 rfl hr2
          have := rm.1
          have := rm.2
          omega
    have go : ∀ (Q : (Int × Int × Z × Nat × Nat) ⊕ ((Z × Nat × Nat) ⊕ (Z × Nat × Nat)) → Prop), (∀ s', itr (bdE b N (l : Int) o) K cnt s' → Q (.inl s')) → ∀ dd, dd = sgN (sgO t st.1) → F_X5_expression_91 (F_X5_args N) (F_X5_atom N) (F_X5_bracketed N) (F_X5_expression N) (F_X5_signed N) (F_X5_word N) (b 1) (l : Int) o (fl1 f) x4 (sgO t st.1) (some (b 1)) (zI y (b 1) 9) dd y c s Q := by
      intro Q hQ dd hdd
      unfold F_X5_expression_91 F_X5_expression_128 F_X5_expression_133
      refine ⟨b 1, rfl, cK Cy.1 1 rfl rfl, ?_⟩
      rw [y9, hdd, w32e (x := st.1 + sgN (sgO t st.1)) (by omega) (by omega)]
      rintro _ rfl
      have f1 : FrZ (WB b wSc) y (wI y (b 1) 9 (st.1 + sgN (sgO t st.1))) := FrZ_wI FrZ_rf (Or.inl (WB_i (by decide) (by decide)))
      have R1 := OkC_sc (e' := st.1 + sgN (sgO t st.1)) C.1 Ry f1 (by rw [zI_wI, if_pos ⟨rfl, rfl⟩])
      generalize wI y (b 1) 9 (st.1 + sgN (sgO t st.1)) = y1 at f1 R1
      refine o_binds ⟨cK (TxC_o C R1).1 1 rfl rfl, bgC r1 (skp t (st.1 + sgN (sgO t st.1))) c, bgS r1 (skp t (st.1 + sgN (sgO t st.1))) s, bgle.1, bgle.2, ?_⟩
      rw [w32e (by omega) (by omega), eb]
      refine HE ((bnd (sgO t st.1)).toNat + 1) (by omega) (by omega) o (skp t (st.1 + sgN (sgO t st.1)), st.2) N ho (by omega) gd1 y1 _ _ _ ⟨⟨J, st.1 + sgN (sgO t st.1), R1, rfl, by omega, sn.2.1⟩, ⟨⟨by show 0 ≤ skp t _; omega, kb.2.1⟩, sp.2.1⟩, by show (st.2.1.length : Int) ≤ skp t _; omega⟩ (by rw [hr1]; exact rm1) (fun y2 hy2 => ?_)
      rw [hr1] at hy2
      refine ⟨cK (z6_o E hy2) 1 rfl rfl, ?_⟩
      -- where the flag goes
      have flg : ∀ (y3 : Z) (c3 s3 : Nat), Q (.inl (fl1 (f || decide (bnd (sgO t st.1) = 1)), x4 + 1, y3, c3, s3)) → (if fl1 f = 0 then F_X11_bindsOf (sgO t st.1) (fun x_121 => (if x_121 = 1 then Q (.inl (1, w32 (x4 + 1), y3, c3, s3)) else Q (.inl (0, w32 (x4 + 1), y3, c3, s3)))) else Q (.inl (1, w32 (x4 + 1), y3, c3, s3))) := by
        intro y3 c3 s3 hq
        rw [w32e (x := x4 + 1) (by omega) (by omega)]
        unfold fl1 at hq ⊢
        cases f with
        | true =>
          rw [if_neg (by decide)]
          exact hq
        | false =>
          rw [if_pos (by decide)]
          refine o_binds ?_
          by_cases b1 : bnd (sgO t st.1) = 1
          · rw [if_pos b1]
            rw [decide_eq_true b1] at hq
            exact hq
          · rw [if_neg b1]
            rw [decide_eq_false b1] at hq
            exact hq
      cases r1 with
      | inl e1' =>
        refine ⟨0, 0, Nat.zero_le _, Nat.zero_le _, o_addF (TxC_l C hy2).1 (FlC_4 hy2) (flg _ _ _ (hQ _ ?_))⟩
        exact bdE_F C hy2 hK (h y2 hy2) cnt (by omega)
      | inr s1 =>
        have q := pos s1 rfl
        have c1 := q.1.2.2.1
        simp only at c1
        have q21 := q.1.2.1.1
        replace rm : RmC ((pg t S n).2.2.1 (l : Int) o (f || decide (bnd (sgO t st.1) = 1)) (addP (opP (sgO t st.1) 2) s1.1 s1)) t.2.1 st.1 c s := rm
        replace h : ∀ y, PoC t b z0 I ((pg t S n).2.2.1 (l : Int) o (f || decide (bnd (sgO t st.1) = 1)) (addP (opP (sgO t st.1) 2) s1.1 s1)) y → P y := h
        have gd2 : gdP ((pg t S n).2.2.1 (l : Int) o (f || decide (bnd (sgO t st.1) = 1)) (addP (opP (sgO t st.1) 2) s1.1 s1)) := gd_rk gd rfl
        have left : (1 ≤ c - (3 * (s1.1 - skp t (st.1 + sgN (sgO t st.1)))).toNat ∧ 9 ≤ s - (14 * (s1.1 - skp t (st.1 + sgN (sgO t st.1)))).toNat) ∧ RmC ((pg t S n).2.2.1 (l : Int) o (f || decide (bnd (sgO t st.1) = 1)) (addP (opP (sgO t st.1) 2) s1.1 s1)) t.2.1 s1.1 (c - (3 * (s1.1 - skp t (st.1 + sgN (sgO t st.1)))).toNat - 1) (s - (14 * (s1.1 - skp t (st.1 + sgN (sgO t st.1)))).toNat - 9) := by
          cases hr2 : (pg t S n).2.2.1 (l : Int) o (f || decide (bnd (sgO t st.1) = 1)) (addP (opP (sgO t st.1) 2) s1.1 s1) with
          | inl e2 =>
            rw [hr2] at rm
            have m1 := rm.1
            have m2 := rm.2
            exact ⟨by omega, by omega, by omega⟩
          | inr s2 =>
            rw [hr2] at rm
            have m := mono s1 s2 rfl hr2
            have m1 := rm.1
            have m2 := rm.2
            exact ⟨by omega, by omega, by omega⟩
        refine ⟨1, 9, left.1.1, left.1.2, o_opA E hy2 (by omega) (Nat.le_refl _) (Nat.le_refl _) (fun y3 hy3 => flg _ _ _ (hQ _ ?_))⟩
        refine HL l l1 l5 o _ (addP (opP (sgO t st.1) 2) s1.1 s1) ps0 N (x4 + 1) ho hN (sg2 s1 rfl) (lo2 s1) ⟨by omega, by show x4 + 1 ≤ s1.1; omega⟩ gd2 y3 _ _ P K hK hy3 ⟨q21, q.1.2.1.2⟩ ?_ left.2 h cnt ?_
        · show ((s1.2.1 ++ [_]).length : Int) ≤ s1.1
          rw [List.length_append, List.length_singleton]; omega
        · show (t.2.1 - s1.1).toNat + 2 ≤ cnt
          omega
    have sgw := sg_w sr.1 sr.2
    have e63 : ∀ (Q : (Int × Int × Z × Nat × Nat) ⊕ ((Z × Nat × Nat) ⊕ (Z × Nat × Nat)) → Prop), (∀ s', itr (bdE b N (l : Int) o) K cnt s' → Q (.inl s')) → F_X5_expression_63 (F_X5_args N) (F_X5_atom N) (F_X5_bracketed N) (F_X5_expression N) (F_X5_signed N) (F_X5_word N) (b 1) (l : Int) o (fl1 f) x4 (sgO t st.1) y c s Q := by
      intro Q hQ
      unfold F_X5_expression_63
      refine ⟨cK Cy.1 1 rfl rfl, ?_⟩
      rw [w32e (x := sgO t st.1 - 1) (by omega) (by omega), w32e (x := (sgO t st.1 - 1) * 2) (by omega) (by omega), w32e (x := (sgO t st.1 - 1) * 2 + 1) (by omega) (by omega), s9_t.1]
      refine ⟨by omega, by omega, ?_⟩
      by_cases c32 : sCh 9 ((sgO t st.1 - 1) * 2 + 1) = 32
      · rw [if_pos c32]; exact go Q hQ 1 (sgw.1 c32).symm
      · rw [if_neg c32]; exact go Q hQ 2 (sgw.2 c32).symm
    by_cases c3 : fl1 f = 0
    · rw [if_pos c3]
      exact e63 _ (fun _ hh => hh)
    · rw [if_neg c3]
      refine o_binds ?_
      have ft : f = true := by
        cases f with
        | true => rfl
        | false => exact absurd rfl c3
      rw [if_neg (fun q => cf ⟨ft, q⟩)]
      exact e63 _ (fun _ hh => hh)
  · have f4 := FlC_4 F
    rw [if_neg (by omega)]
    exact (hK z c s (stop (Or.inl (sgO_z (Or.inr (Or.inr (Or.inr (Or.inr (Or.inl c58))))))) z (Or.inr ⟨c58, F⟩))).1
theorem CwE_s {t : Tx} {S : SS} {b : Nat → Nat} {I : Nat → Prop} {z0 : Z} {n : Nat} (E : EnC t S b I z0) (G : PgO t S (pg t S n)) (HS : CwS t S b I z0 n) (HL : CwL t S b I z0 n) : CwE t S b I z0 (n + 1) := by
  intro l l1 l5 o st N ho hN gd z c s P R rm h
  have C := E.1
  have b3 := C.2.2.1
  have er : (pg t S (n + 1)).1 (l : Int) o st = bEx (pg t S n) l o st := rfl
  rw [er] at gd rm h
  unfold bEx at gd rm h
  generalize hr1 : (pg t S n).2.1 o st = r1 at gd rm h
  have gd1 : gdP ((pg t S n).2.1 o st) := by rw [hr1]; exact gd_rb gd
  have h0 := R.2.1.1.1
  have pos : ∀ s1, r1 = .inr s1 → PoS t S.2.1.1 st.2.1 st s1 ∧ st.1 < s1.1 := fun s1 e => G.2.1 o st s1 R.2.1 (by rw [hr1]; exact e)
  have mono : ∀ s1 s2, r1 = .inr s1 → (pg t S n).2.2.1 (l : Int) o false s1 = .inr s2 → s1.1 ≤ s2.1 := by
    intro s1 s2 e e2
    have q := pos s1 e
    exact (G.2.2.1 _ _ _ s1 s2 st.2.1 ⟨by omega, q.1.2.1.1⟩ q.1.2.1.2 q.1.1.1 q.1.1.2 e2).2
  have rmA : RmC r1 t.2.1 st.1 c s ∧ (bgC r1 st.1 c ≤ c ∧ bgS r1 st.1 s ≤ s) := by
    cases r1 with
    | inl e1' => exact ⟨rm, Nat.le_refl _, Nat.le_refl _⟩
    | inr s1 =>
      have q := pos s1 rfl
      have q21 := q.1.2.1.1
      replace rm : RmC ((pg t S n).2.2.1 (l : Int) o false s1) t.2.1 st.1 c s := rm
      cases hr2 : (pg t S n).2.2.1 (l : Int) o false s1 with
      | inl e2 =>
        rw [hr2] at rm
        have m1 := rm.1
        have m2 := rm.2
        exact ⟨⟨by omega, by omega⟩, by show (3 * (s1.1 - st.1)).toNat ≤ c; omega, by show (14 * (s1.1 - st.1)).toNat ≤ s; omega⟩
      | inr s2 =>
        rw [hr2] at rm
        have m := mono s1 s2 rfl hr2
        have m1 := rm.1
        have m2 := rm.2
        exact ⟨⟨by omega, by omega⟩, by show (3 * (s1.1 - st.1)).toNat ≤ c; omega, by show (14 * (s1.1 - st.1)).toNat ≤ s; omega⟩
  obtain ⟨M, rfl⟩ : ∃ M, N = M + 1 := ⟨N - 1, by omega⟩
  show B_X5_expression (F_X5_args M) (F_X5_atom M) (F_X5_bracketed M) (F_X5_expression M) (F_X5_signed M) (F_X5_word M) (b 1) (l : Int) o z c s P
  unfold B_X5_expression F_X5_expression_10
  obtain ⟨J, e, Rz, -⟩ := id R.1
  refine ⟨cK (TxC_o C Rz).1 1 rfl rfl, bgC r1 st.1 c, bgS r1 st.1 s, rmA.2.1, rmA.2.2, ?_⟩
  refine HS o st M ho (by omega) gd1 z _ _ _ R (by rw [hr1]; exact rm_bg rmA.1) (fun y hy => ?_)
  rw [hr1] at hy
  cases r1 with
  | inl e1' => exact ⟨1, bdE_F (P := P) C hy (fun _ _ _ hp => ⟨hp, hp⟩) (h y hy) 1 (Nat.le_refl 1)⟩
  | inr s1 =>
    have q := pos s1 rfl
    have q21 := q.1.2.1.1
    have c1 := q.1.2.2.1
    replace rm : RmC ((pg t S n).2.2.1 (l : Int) o false s1) t.2.1 st.1 c s := rm
    replace h : ∀ y, PoC t b z0 I ((pg t S n).2.2.1 (l : Int) o false s1) y → P y := h
    have gd2 : gdP ((pg t S n).2.2.1 (l : Int) o false s1) := gd_rk gd rfl
    have left : RmC ((pg t S n).2.2.1 (l : Int) o false s1) t.2.1 s1.1 (c - (3 * (s1.1 - st.1)).toNat) (s - (14 * (s1.1 - st.1)).toNat) := by
      cases hr2 : (pg t S n).2.2.1 (l : Int) o false s1 with
      | inl e2 =>
        rw [hr2] at rm
        have m1 := rm.1
        have m2 := rm.2
        exact ⟨by omega, by omega⟩
      | inr s2 =>
        rw [hr2] at rm
        have m := mono s1 s2 rfl hr2
        have m1 := rm.1
        have m2 := rm.2
        exact ⟨by omega, by omega⟩
    have len := R.2.2
    exact ⟨(t.2.1 - s1.1).toNat + 2, HL l l1 l5 o false s1 st.2.1 M 0 ho (by omega) q.1.1.1 q.1.1.2 ⟨Int.le_refl 0, by omega⟩ gd2 y _ _ P _ (fun _ _ _ hp => ⟨hp, hp⟩) hy ⟨q21, q.1.2.1.2⟩ (by omega) left h _ (Nat.le_refl _)⟩
