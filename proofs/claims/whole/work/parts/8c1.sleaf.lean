/-! ===== the system's reader: parts and literals ===== -/
theorem fr_0 {b : Nat → Nat} {z0 : Z} {I J : Nat → Prop} {z : Z} {e : Int} {ps : List Prt} {lt : Int × Int} (R : OkC b z0 I J z e ps lt) {a : Nat} (h : zK z a = 0) : zK z0 a = 0 ∧ ¬ J a := by
  refine ⟨?_, fun j => (R.1.2.2 a j).1 h⟩
  apply Classical.byContradiction
  intro n
  have := (R.1.1.1 a n).1
  rw [h] at this
  exact n this.symm
theorem LitC_J {z : Z} {J J2 : Nat → Prop} {v : Nat} {l : Lit} (hJ : ∀ a, J a → J2 a) (h : LitC z J v l) : LitC z J2 v l := by
  obtain ⟨v2, v3, v4, ba, v5, v6, v7⟩ := h
  exact ⟨hJ v v2, v3, v4, ba, v5, hJ ba v6, v7⟩
theorem o_add {t : Tx} {b : Nat → Nat} {z0 : Z} {I J J1 : Nat → Prop} {z : Z} {e op args : Int} {ps : List Prt} {lt : Int × Int} {lo : Option Lit} {vo : Option Nat} {c' s' : Nat} {P : Z → Prop} (C : TxC t z0 b) (R : OkC b z0 I J z e ps lt) (hl : ps.length < 400) (hc : 1 ≤ c') (hs : 9 ≤ s') (hJ : ∀ a, J a → J1 a) (fJ : ∀ a, J1 a → J a ∨ (zK z0 a = 0 ∧ zK z a ≠ 0 ∧ zK z a ≠ 7 ∧ zK z a ≠ 1)) (hlit : match lo with
    | none => vo = none
    | some l => ∃ v, vo = some v ∧ LitC z J1 v l) (h : ∀ y J2, OkC b z0 I J2 y e (ps ++ [(op, args, lo, (0, 0, 0, 0), 0, -1)]) lt → P y) : F_X5_addPart (b 1) op args vo z c' s' P := by
  have cz : CWz z b := (TxC_o C R).1
  have e10 := R.2.2.2.1.2
  have e4 := R.2.1.1
  have o12 : zO z (b 1) 1 = some (b 12) := cO cz 1 1 12 (by decide)
  unfold F_X5_addPart F_X5_addPart_48
  refine ⟨cK cz 1 rfl rfl, ?_⟩
  rw [if_pos e4]
  refine ⟨b 12, o12, cK cz 12 rfl rfl, ?_⟩
  rw [cN cz 12 (c := 400) rfl rfl, e10, if_neg (by omega)]
  refine ⟨hc, hs, fun a ha z1 e1 => ?_⟩
  subst e1
  obtain ⟨na, nj⟩ := fr_0 R ha
  have nk : ∀ k, k < 35 → b k ≠ a := fun k hk e => (ckz_k k hk).2.2 (by rw [← (cz.1 k hk).1, e]; exact ha)
  have nJ1 : ∀ x, J1 x → x ≠ a := by
    intro x jx e
    rcases fJ x jx with q | q
    · exact nj (e ▸ q)
    · exact q.2.1 (by rw [e]; exact ha)
  unfold F_X4_init
  refine ⟨by simp [zK_nZ], ?_⟩
  rintro _ rfl _ rfl _ rfl _ rfl
  have f : FrZ (fun x _ => x = a) z (wO (wI (wI (wI (nZ z a 5 0) a 8 (-1)) a 0 op) a 1 args) a 2 vo) := FrZ_wO (FrZ_wI (FrZ_wI (FrZ_wI (FrZ_nZ FrZ_rf ha) (Or.inl rfl)) (Or.inl rfl)) (Or.inl rfl)) (Or.inl rfl)
  have k5 : zK (wO (wI (wI (wI (nZ z a 5 0) a 8 (-1)) a 0 op) a 1 args) a 2 vo) a = 5 := by simp [zK_wO, zK_wI, zK_nZ]
  have i0 : zI (wO (wI (wI (wI (nZ z a 5 0) a 8 (-1)) a 0 op) a 1 args) a 2 vo) a 0 = op := by simp [zI_wO, zI_wI, zI_nZ]
  have i1 : zI (wO (wI (wI (wI (nZ z a 5 0) a 8 (-1)) a 0 op) a 1 args) a 2 vo) a 1 = args := by simp [zI_wO, zI_wI, zI_nZ]
  have i3 : ∀ i, 3 ≤ i → i ≤ 7 → zI (wO (wI (wI (wI (nZ z a 5 0) a 8 (-1)) a 0 op) a 1 args) a 2 vo) a i = 0 := by
    intro i h1 h2
    rw [zI_wO, zI_wI, if_neg (by omega), zI_wI, if_neg (by omega), zI_wI, if_neg (by omega), zI_nZ, if_pos rfl]
  have i8 : zI (wO (wI (wI (wI (nZ z a 5 0) a 8 (-1)) a 0 op) a 1 args) a 2 vo) a 8 = -1 := by simp [zI_wO, zI_wI, zI_nZ]
  have o2 : zO (wO (wI (wI (wI (nZ z a 5 0) a 8 (-1)) a 0 op) a 1 args) a 2 vo) a 2 = vo := by simp [zO_wO]
  generalize wO (wI (wI (wI (nZ z a 5 0) a 8 (-1)) a 0 op) a 1 args) a 2 vo = y at f k5 i0 i1 i3 i8 o2
  have Ry := OkC_fr C.1 R f (fun x i hx => by rw [hx]; exact ⟨na, nj⟩)
  have cy : CWz y b := (TxC_o C Ry).1
  refine ⟨b 12, o12, cK cy 12 rfl rfl, by omega, by rw [cN cy 12 (c := 400) rfl rfl]; omega, fun v hv => by cases hv; exact k5, ?_⟩
  rintro _ rfl
  refine ⟨cK cy 1 rfl rfl, ?_⟩
  rw [zI_wO, Ry.2.2.2.1.2, w32e (by omega) (by omega)]
  rintro _ rfl
  have kz : ∀ x, zK z x ≠ 0 → zK y x = zK z x := fun x hx => (f.1 x hx).1
  refine h _ (fun x => J1 x ∨ x = a) (OkC_put C.1 Ry na k5 i0 (fun x => J1 x ∨ x = a) (fun x jx => Or.inl (hJ x jx)) (Or.inr rfl) (fun x jx => ?_) (fun l0 => ?_) rfl)
  · rcases jx with jx | jx
    · rcases fJ x jx with q | q
      · exact Or.inl q
      · exact Or.inr ⟨q.1, by rw [kz x q.2.1]; exact q.2⟩
    · rw [jx]; exact Or.inr ⟨na, by rw [k5]; decide⟩
  · refine ⟨Or.inr rfl, k5, i0, i1, ?_, i3 3 (by decide) (by decide), i3 4 (by decide) (by decide), i3 5 (by decide) (by decide), i3 6 (by decide) (by decide), i3 7 (by decide) (by decide), i8⟩
    cases lo with
    | none => exact o2.trans hlit
    | some l =>
      obtain ⟨v, hv, lv⟩ := hlit
      exact ⟨v, o2.trans hv, LitC_J (fun x jx => Or.inl jx) (LitC_fr f (fun x i jx => nJ1 x jx) lv)⟩
/-- budgets -/
def RmC (r : PR) (en a : Int) (c s : Nat) : Prop := match r with
  | .inl _ => 3 * (en + 1 - a) ≤ (c : Int) ∧ 14 * (en + 1 - a) ≤ (s : Int)
  | .inr p => 3 * (p.1 - a) ≤ (c : Int) ∧ 14 * (p.1 - a) ≤ (s : Int)
def PrC (t : Tx) (b : Nat → Nat) (z0 : Z) (I : Nat → Prop) (z : Z) (st : PS) : Prop := (∃ J e, OkC b z0 I J z e st.2.1 st.2.2 ∧ skp t e = st.1 ∧ 0 ≤ e ∧ e ≤ t.2.1) ∧ OkS t st ∧ (st.2.1.length : Int) ≤ st.1
/-- a new Value with its bytes -/
theorem o_val {t : Tx} {b : Nat → Nat} {z0 : Z} {I J : Nat → Prop} {z : Z} {e n : Int} {ps : List Prt} {lt : Int × Int} {a : Nat} {c' s' : Nat} {P : Z → Prop} (C : TxC t z0 b) (R : OkC b z0 I J z e ps lt) (ha : zK z a = 0) (n0 : 0 ≤ n ∧ n ≤ 400) (hc : 1 ≤ c') (hs : n ≤ (s' : Int)) (h : ∀ y ba, OkC b z0 I J y e ps lt → zK y a = 9 → zO y a 0 = some ba → zK y ba = 14 → zN y ba = n → ba ≠ a → zK z0 a = 0 ∧ ¬ J a → zK z0 ba = 0 ∧ ¬ J ba → FrZ nW z y → P y) : F_X8_init a n (nZ z a 9 0) c' s' P := by
  obtain ⟨na, nj⟩ := fr_0 R ha
  unfold F_X8_init
  rw [show max n 0 = n by omega]
  refine ⟨n0.1, by omega, hc, by omega, fun ba hb z1 e1 => ?_⟩
  subst e1
  have hab : ba ≠ a := fun e => by rw [e, zK_nZ, if_pos rfl] at hb; cases hb
  have hb0 : zK z ba = 0 := by rw [zK_nZ, if_neg hab] at hb; exact hb
  obtain ⟨nb, njb⟩ := fr_0 R hb0
  refine ⟨by rw [zK_nZ, if_neg hab.symm, zK_nZ, if_pos rfl], ?_⟩
  rintro _ rfl
  have f : FrZ nW z (wO (nZ (nZ z a 9 0) ba 14 n) a 0 (some ba)) := FrZ_wO (FrZ_nZ (FrZ_nZ FrZ_rf ha) hb) (Or.inr ha)
  refine h _ ba (OkC_fr C.1 R f (fun x i hx => absurd hx (fun q => q))) ?_ ?_ ?_ ?_ hab ⟨na, nj⟩ ⟨nb, njb⟩ f
  · rw [zK_wO, zK_nZ, if_neg hab.symm, zK_nZ, if_pos rfl]
  · rw [zO_wO, if_pos ⟨rfl, rfl⟩]
  · rw [zK_wO, zK_nZ, if_pos rfl]
  · rw [zN_wO, zN_nZ, if_pos rfl]
/-- a Value is fixed, and a part is made of it -/
theorem o_lit {t : Tx} {b : Nat → Nat} {z0 : Z} {I J : Nat → Prop} {z : Z} {e : Int} {ps : List Prt} {lt : Int × Int} {l : Lit} {a ba : Nat} {c' s' : Nat} {P : Z → Prop} (C : TxC t z0 b) (R : OkC b z0 I J z e ps lt) (hl : ps.length < 400) (hc : 1 ≤ c') (hs : 9 ≤ s') (ka : zK z a = 9) (kb : zK z ba = 14) (na : zK z0 a = 0) (nb : zK z0 ba = 0) (V : zI z a 1 = l.1 ∧ zO z a 0 = some ba ∧ (if l.1 = 2 then zG z a 2 = (l.2.2.length : Int) ∧ (l.2.2.length : Int) ≤ zN z ba ∧ l.2.1 = 0 ∧ ∀ i : Nat, i < l.2.2.length → zI z ba i = l.2.2.getD i 0 else zG z a 2 = l.2.1 ∧ l.2.2 = [])) (h : ∀ y J2, OkC b z0 I J2 y e (ps ++ [litP l]) lt → P y) : F_X5_addPart (b 1) 14 0 (some a) z c' s' P := by
  refine o_add (lo := some l) (J1 := fun x => J x ∨ x = a ∨ x = ba) C R hl hc hs (fun x jx => Or.inl jx) (fun x jx => ?_) ⟨a, rfl, ?_⟩ h
  · rcases jx with q | q | q
    · exact Or.inl q
    · rw [q]; exact Or.inr ⟨na, by rw [ka]; decide⟩
    · rw [q]; exact Or.inr ⟨nb, by rw [kb]; decide⟩
  · exact ⟨Or.inr (Or.inl rfl), ka, V.1, ba, V.2.1, Or.inr (Or.inr rfl), kb, V.2.2⟩
theorem o_num {t : Tx} {b : Nat → Nat} {z0 : Z} {I J : Nat → Prop} {z : Z} {st : PS} {c' s' : Nat} {P : Z → Prop} (C : TxC t z0 b) (R : OkC b z0 I J z st.1 st.2.1 st.2.2) (hst : 0 ≤ st.1) (hlen : (st.2.1.length : Int) ≤ st.1) (hd : dgB (bt t st.1) = true) (rm : RmC (pNum t st) t.2.1 st.1 c' s') (h : ∀ y, PoC t b z0 I (pNum t st) y → P y) : F_X5_number (b 1) z c' s' P := by
  have b3 := C.2.2.1
  have bi := bt_in (t := t) (k := st.1) (fun e => by rw [e] at hd; cases hd)
  have rb0 := rn_b (p := dgB) (t := t) dgB_n hst
  have r1 := rn_1 (t := t) dgB_n hst hd
  have rb1 := rn_b (p := dgB) (t := t) (k := st.1 + 1) dgB_n (by omega)
  have room : 3 ≤ c' ∧ 13 ≤ s' := by
    unfold pNum at rm
    split at rm
    · have := rm.1; have := rm.2; omega
    · have q1 := rm.1
      have q2 := rm.2
      have sk := skp_b (t := t) (k := rn dgB t st.1) (by omega) (by omega)
      unfold addP at q1 q2
      simp only at q1 q2
      omega
  unfold F_X5_number
  refine ⟨by omega, by omega, fun a ha z1 e1 => ?_⟩
  subst e1
  refine ⟨1, 0, by omega, by omega, ?_⟩
  refine o_val (e := st.1) C R ha ⟨Int.le_refl 0, by decide⟩ (by omega) (by decide) (fun y ba Ry ka oa kb nb hab fa fb _ => ?_)
  have cy : CWz y b := (TxC_o C Ry).1
  refine ⟨cK cy 1 rfl rfl, ka, ?_⟩
  unfold F_X8_set
  refine ⟨ka, ?_⟩
  rintro _ rfl _ rfl _ rfl
  rw [Ry.2.2.2.1.1]
  have nk : ∀ k, k < 35 → b k ≠ a := fun k hk e => (ckz_k k hk).2.2 (by rw [← (C.1.1 k hk).1, e]; exact fa.1)
  have f0 : FrZ (fun x _ => x = a) y (wI (wG (wI y a 1 1) a 2 0) a 3 0) := FrZ_wI (FrZ_wG (FrZ_wI FrZ_rf (Or.inl rfl)) (Or.inl rfl)) (Or.inl rfl)
  have R0 := OkC_fr C.1 Ry f0 (fun x i hx => by rw [hx]; exact fa)
  have ka0 : zK (wI (wG (wI y a 1 1) a 2 0) a 3 0) a = 9 := ka
  have oa0 : zO (wI (wG (wI y a 1 1) a 2 0) a 3 0) a 0 = some ba := oa
  have kb0 : zK (wI (wG (wI y a 1 1) a 2 0) a 3 0) ba = 14 := kb
  have v1 : zI (wI (wG (wI y a 1 1) a 2 0) a 3 0) a 1 = 1 := by simp [zI_wI, zI_wG]
  have v2 : zG (wI (wG (wI y a 1 1) a 2 0) a 3 0) a 2 = 0 := by simp [zG_wI, zG_wG]
  generalize wI (wG (wI y a 1 1) a 2 0) a 3 0 = x at R0 ka0 oa0 kb0 v1 v2
  unfold F_X5_number_20
  refine lp_I (fun w' => ∃ j, OkC b z0 I J w' j st.2.1 st.2.2 ∧ (st.1 ≤ j ∧ j ≤ rn dgB t st.1 ∧ j - st.1 ≤ 15) ∧ zK w' a = 9 ∧ zO w' a 0 = some ba ∧ zK w' ba = 14 ∧ zI w' a 1 = 1 ∧ numV t (rn dgB t st.1 - j).toNat j (zG w' a 2) = numV t (rn dgB t st.1 - st.1).toNat st.1 0 ∧ 0 ≤ zG w' a 2 ∧ zG w' a 2 < 10 ^ (j - st.1).toNat) (fun w' => (t.2.1 - zI w' (b 1) 9).toNat) ?_ x ⟨st.1, R0, ⟨Int.le_refl _, by omega, by omega⟩, ka0, oa0, kb0, v1, by rw [v2], by rw [v2]; exact Int.le_refl 0, by rw [v2, show (st.1 - st.1).toNat = 0 by omega]; decide⟩
  rintro G w' ⟨j, Rw, ⟨j0, j1, j15⟩, kw, ow, kbw, w1, wn, w0, wp⟩ ih
  have Cw := TxC_o C Rw
  have cw := Cw.1
  have w9 := Rw.2.2.2.1.1
  unfold L_X5_number_20 F_X5_number_107
  refine ⟨cK cw 1 rfl rfl, ?_⟩
  rw [w9, Cw.2.1.2]
  have fin : j = rn dgB t st.1 → F_X5_number_107 (b 1) (some a) w' (c' - 1 - 1) (s' - 4 - 0) P := by
    intro ej
    unfold F_X5_number_107
    refine ⟨cK cw 1 rfl rfl, c' - 1 - 1, s' - 4 - 0, by omega, by omega, ?_⟩
    have c15 : ¬ rn dgB t st.1 - st.1 > 15 := by omega
    refine o_lit (l := (1, numV t (rn dgB t st.1 - st.1).toNat st.1 0, [])) C Rw (by omega) (by omega) (by omega) kw kbw fa.1 fb.1 ⟨w1, ow, ?_⟩ (fun y2 J2 R2 => h y2 ?_)
    · rw [if_neg (by show ¬ (1 : Int) = 2; decide)]
      rw [ej, show (rn dgB t st.1 - rn dgB t st.1).toNat = 0 by omega, numV] at wn
      exact ⟨wn, rfl⟩
    · unfold pNum
      rw [if_neg c15]
      exact Or.inl ⟨J2, j, R2, by rw [ej]; rfl, by omega, by omega⟩
  by_cases c1 : t.2.1 ≤ j
  · rw [if_pos c1]
    exact fin (by omega)
  · rw [if_neg c1]
    refine ⟨b 11, cO cw 1 0 11 (by decide), cK cw 11 rfl rfl, by omega, by rw [cN cw 11 (c := 400) rfl rfl]; omega, ?_⟩
    rw [sb_is Cw (by omega) (by omega)]
    refine o_dig Cw (fun d => ?_) (fun d => ?_)
    · rw [if_neg (by decide), w32e (x := j - st.1) (by omega) (by omega)]
      have jlt : j < rn dgB t st.1 := by
        by_cases q : j < rn dgB t st.1
        · exact q
        · have : j = rn dgB t st.1 := by omega
          rw [this, rb0.2.2.1] at d
          cases d
      by_cases c15 : j - st.1 = 15
      · rw [if_pos c15]
        show (zK w' (b 1) = 6 ∧ F_X5_fail (b 1) 1 (zI w' (b 1) 9) w' (fun z_63 => P z_63))
        refine ⟨cK cw 1 rfl rfl, ?_⟩
        rw [w9]
        refine o_fail (t := t) C.1 Rw (by decide) ⟨by omega, by omega⟩ (by omega) (fun y2 F2 => h y2 ?_)
        unfold pNum
        rw [if_pos (by omega), show st.1 + 15 = j by omega]
        exact F2
      · rw [if_neg c15]
        refine ⟨a, rfl, kw, ?_⟩
        have dd := dgB_i.mp d
        unfold dgP at dd
        have sv := sb_v Cw j
        have es : sbt t j = bt t j := by omega
        have p15 := pow15 (j - st.1).toNat (by omega)
        rw [es, w64e (x := zG w' a 2 * 10) (by omega) (by omega), w64e (x := zG w' a 2 * 10 + bt t j) (by omega) (by omega), w64e (x := zG w' a 2 * 10 + bt t j - 48) (by omega) (by omega)]
        rintro _ rfl
        rw [zI_wG, w9, w32e (by omega) (by omega)]
        rintro _ rfl
        have fw : FrZ (fun x _ => x = a) w' (wG w' a 2 (zG w' a 2 * 10 + bt t j - 48)) := FrZ_wG FrZ_rf (Or.inl rfl)
        have R1 := OkC_fr C.1 Rw fw (fun x i hx => by rw [hx]; exact fa)
        have R2 := OkC_sc (e' := j + 1) C.1 R1 (y := wI (wG w' a 2 (zG w' a 2 * 10 + bt t j - 48)) (b 1) 9 (j + 1)) (FrZ_wI FrZ_rf (Or.inl (WB_i (by decide) (by decide)))) (by rw [zI_wI, if_pos ⟨rfl, rfl⟩])
        have ne := nk 1 (by decide)
        refine ih _ ⟨j + 1, R2, ⟨by omega, by omega, by omega⟩, kw, ow, kbw, ?_, ?_, ?_, ?_⟩ ?_
        · rw [zI_wI, if_neg (fun q => ne q.1.symm)]; exact w1
        · rw [zG_wI, zG_wG, if_pos ⟨rfl, rfl⟩, ← wn, show (rn dgB t st.1 - j).toNat = (rn dgB t st.1 - (j + 1)).toNat + 1 by omega, numV]
        · rw [zG_wI, zG_wG, if_pos ⟨rfl, rfl⟩]; omega
        · rw [zG_wI, zG_wG, if_pos ⟨rfl, rfl⟩, show (j + 1 - st.1).toNat = (j - st.1).toNat + 1 by omega, Int.pow_succ]; omega
        · rw [zI_wI, if_pos ⟨rfl, rfl⟩, w9]; omega
    · rw [if_pos rfl]
      refine fin ?_
      by_cases q : j < rn dgB t st.1
      · have := rb0.2.2.2 j j0 q
        rw [d] at this
        cases this
      · omega
theorem o_quo {t : Tx} {b : Nat → Nat} {z0 : Z} {I J : Nat → Prop} {z : Z} {st : PS} {c' s' : Nat} {P : Z → Prop} (C : TxC t z0 b) (R : OkC b z0 I J z st.1 st.2.1 st.2.2) (hst : 0 ≤ st.1) (hlen : (st.2.1.length : Int) ≤ st.1) (hd : bt t st.1 = 34) (rm : RmC (pQuo t st) t.2.1 st.1 c' s') (h : ∀ y, PoC t b z0 I (pQuo t st) y → P y) : F_X5_quoted (b 1) z c' s' P := by
  have b3 := C.2.2.1
  have bi := bt_in (t := t) (k := st.1) (by omega)
  have Cz := TxC_o C R
  have cz := Cz.1
  have z9 := R.2.2.2.1.1
  unfold F_X5_quoted
  refine ⟨cK cz 1 rfl rfl, ?_⟩
  rw [z9, w32e (x := st.1 + 1) (by omega) (by omega)]
  unfold F_X5_quoted_9
  unfold pQuo at rm h
  refine lp_I (fun x => (st.1 + 1 ≤ x ∧ x ≤ t.2.1 ∧ x ≤ st.1 + 25) ∧ qu t st.1 (t.2.1 - st.1).toNat (st.1 + 1) = qu t st.1 (t.2.1 + 1 - x).toNat x) (fun x => (t.2.1 - x).toNat) ?_ (st.1 + 1) ⟨⟨Int.le_refl _, by omega, by omega⟩, by congr 2; omega⟩
  rintro G x ⟨⟨x0, x1, x2⟩, hq⟩ ih
  rw [show (t.2.1 + 1 - x).toNat = (t.2.1 - x).toNat + 1 by omega, qu] at hq
  unfold L_X5_quoted_9
  refine ⟨cK cz 1 rfl rfl, ?_⟩
  rw [Cz.2.1.2]
  have flt : ∀ p, qu t st.1 (t.2.1 - st.1).toNat (st.1 + 1) = .inl (1, p) → F_X5_fail (b 1) 1 p z (fun z_116 => P z_116) := by
    intro p hp
    rw [hp] at h
    exact o_fail (t := t) C.1 R (by decide) ⟨hst, by omega⟩ (by omega) (fun y F => h y F)
  by_cases c1 : t.2.1 ≤ x
  · rw [if_pos c1]
    rw [if_neg (by rw [bt_out (by omega)]; decide), if_pos c1] at hq
    show (zK z (b 1) = 6 ∧ F_X5_fail (b 1) 1 (zI z (b 1) 3) z (fun z_116 => P z_116))
    refine ⟨cK cz 1 rfl rfl, ?_⟩
    rw [Cz.2.1.1]
    exact flt _ hq
  · rw [if_neg c1]
    refine ⟨b 11, cO cz 1 0 11 (by decide), cK cz 11 rfl rfl, by omega, by rw [cN cz 11 (c := 400) rfl rfl]; omega, ?_⟩
    rw [sb_is Cz (by omega) (by omega)]
    by_cases c34 : bt t x = 34
    · rw [if_pos ((sb_i Cz (by decide) (by decide)).mpr c34)]
      rw [if_pos c34] at hq
      rw [hq] at h rm
      obtain ⟨q1, q2, q3, q4, q5⟩ := qu_f _ _ _ (Int.le_refl _) (by omega) hst (fun j a b => by omega) hq
      have room : 3 ≤ c' ∧ 13 + (x - (st.1 + 1)) ≤ (s' : Int) := by
        have r1 := rm.1
        have r2 := rm.2
        have sk := skp_b (t := t) (k := x + 1) (by omega) (by omega)
        unfold addP at r1 r2
        simp only at r1 r2
        omega
      show (1 ≤ c' ∧ 4 ≤ s' ∧ _)
      refine ⟨by omega, by omega, fun a ha z1 e1 => ?_⟩
      subst e1
      rw [w32e (x := x - (st.1 + 1)) (by omega) (by omega)]
      refine ⟨1, (x - (st.1 + 1)).toNat, by omega, by omega, ?_⟩
      refine o_val (e := st.1) C R ha ⟨by omega, by omega⟩ (by omega) (by omega) (fun y ba Ry ka oa kb nb hab fa fb _ => ?_)
      have Cy := TxC_o C Ry
      have cy := Cy.1
      have nk : ∀ k, k < 35 → b k ≠ a := fun k hk e => (ckz_k k hk).2.2 (by rw [← (C.1.1 k hk).1, e]; exact fa.1)
      have nkb : ∀ k, k < 35 → b k ≠ ba := fun k hk e => (ckz_k k hk).2.2 (by rw [← (C.1.1 k hk).1, e]; exact fb.1)
      refine ⟨cK cy 1 rfl rfl, ka, ?_⟩
      have oT : zO y (b 1) 0 = some (b 11) := cO cy 1 0 11 (by decide)
      unfold F_X8_setBytes F_X8_setBytes_30
      rw [oT, if_neg (by omega)]
      refine ⟨ka, ba, oa, kb, ?_⟩
      rw [nb, if_neg (by omega), if_neg (by omega)]
      refine ⟨b 11, rfl, cK cy 11 rfl rfl, ?_⟩
      rw [cN cy 11 (c := 400) rfl rfl, w32e (by omega) (by omega), if_neg (by omega), if_neg (by decide)]
      refine ⟨ka, b 11, rfl, cK cy 11 rfl rfl, ba, oa, kb, by omega, by decide, by omega, by rw [cN cy 11 (c := 400) rfl rfl]; omega, by rw [nb]; omega, ?_⟩
      rintro _ rfl
      unfold F_X8_setBytes_48 F_X8_setBytes_59 F_X8_setBytes_76
      rw [if_neg (by decide)]
      have fc : FrZ (fun x' _ => x' = ba) y (cpI2 y (b 11) (st.1 + 1) ba 0 (x - (st.1 + 1))) := ⟨fun _ _ => ⟨rfl, rfl⟩, fun x' i _ hn => ⟨by rw [zI_cpI2, if_neg (fun q => hn q.1)], rfl, rfl⟩⟩
      have bytes : ∀ i : Nat, (i : Int) < x - (st.1 + 1) → zI (cpI2 y (b 11) (st.1 + 1) ba 0 (x - (st.1 + 1))) ba i = bt t (st.1 + 1 + i) := by
        intro i hi
        rw [zI_cpI2, if_pos ⟨rfl, by omega, by omega⟩, show st.1 + 1 + ((i : Int) - 0) = st.1 + 1 + i by omega, sb_is Cy (by omega) (by omega)]
        have pl := plB_i.mp (q5 (st.1 + 1 + i) (by omega) (by omega))
        have sv := sb_v Cy (st.1 + 1 + i)
        omega
      have Rc := OkC_fr C.1 Ry fc (fun x' i hx => by rw [hx]; exact fb)
      have kac : zK (cpI2 y (b 11) (st.1 + 1) ba 0 (x - (st.1 + 1))) a = 9 := (fc.1 a (by rw [ka]; decide)).1.trans ka
      have kbc : zK (cpI2 y (b 11) (st.1 + 1) ba 0 (x - (st.1 + 1))) ba = 14 := (fc.1 ba (by rw [kb]; decide)).1.trans kb
      have nbc : zN (cpI2 y (b 11) (st.1 + 1) ba 0 (x - (st.1 + 1))) ba = x - (st.1 + 1) := (fc.1 ba (by rw [kb]; decide)).2.trans nb
      have oac : zO (cpI2 y (b 11) (st.1 + 1) ba 0 (x - (st.1 + 1))) a 0 = some ba := (fc.2 a 0 (by rw [ka]; decide) (fun q => hab q.symm)).2.2.trans oa
      generalize cpI2 y (b 11) (st.1 + 1) ba 0 (x - (st.1 + 1)) = w' at fc bytes Rc kac kbc nbc oac
      refine ⟨a, rfl, kac, ?_⟩
      rintro _ rfl
      rw [if_neg (by decide)]
      refine ⟨a, rfl, kac, ?_⟩
      rintro _ rfl
      refine ⟨kac, ?_⟩
      rintro _ rfl
      have f3 : FrZ (fun x' _ => x' = a) w' (wI (wG (wI w' a 1 2) a 2 (x - (st.1 + 1))) a 3 0) := FrZ_wI (FrZ_wG (FrZ_wI FrZ_rf (Or.inl rfl)) (Or.inl rfl)) (Or.inl rfl)
      have R3 := OkC_fr C.1 Rc f3 (fun x' i hx => by rw [hx]; exact fa)
      have u1 : zI (wI (wG (wI w' a 1 2) a 2 (x - (st.1 + 1))) a 3 0) a 1 = 2 := by simp [zI_wI, zI_wG]
      have u2 : zG (wI (wG (wI w' a 1 2) a 2 (x - (st.1 + 1))) a 3 0) a 2 = x - (st.1 + 1) := by simp [zG_wI, zG_wG]
      have u3 : ∀ i, zI (wI (wG (wI w' a 1 2) a 2 (x - (st.1 + 1))) a 3 0) ba i = zI w' ba i := fun i => by rw [zI_wI, if_neg (fun q => hab q.1), zI_wG, zI_wI, if_neg (fun q => hab q.1)]
      have kac3 : zK (wI (wG (wI w' a 1 2) a 2 (x - (st.1 + 1))) a 3 0) a = 9 := kac
      have kbc3 : zK (wI (wG (wI w' a 1 2) a 2 (x - (st.1 + 1))) a 3 0) ba = 14 := kbc
      have nbc3 : zN (wI (wG (wI w' a 1 2) a 2 (x - (st.1 + 1))) a 3 0) ba = x - (st.1 + 1) := nbc
      have oac3 : zO (wI (wG (wI w' a 1 2) a 2 (x - (st.1 + 1))) a 3 0) a 0 = some ba := oac
      generalize wI (wG (wI w' a 1 2) a 2 (x - (st.1 + 1))) a 3 0 = v at f3 R3 u1 u2 u3 kac3 kbc3 nbc3 oac3
      have cv : CWz v b := (TxC_o C R3).1
      refine ⟨cK cv 1 rfl rfl, ?_⟩
      rw [w32e (x := x + 1) (by omega) (by omega)]
      rintro _ rfl
      have R4 := OkC_sc (e' := x + 1) C.1 R3 (y := wI v (b 1) 9 (x + 1)) (FrZ_wI FrZ_rf (Or.inl (WB_i (by decide) (by decide)))) (by rw [zI_wI, if_pos ⟨rfl, rfl⟩])
      refine ⟨c' - 1 - 1, s' - 4 - (x - (st.1 + 1)).toNat, by omega, by omega, ?_⟩
      refine o_lit (l := (2, 0, subL t (st.1 + 1) (x - (st.1 + 1)).toNat)) C R4 (by omega) (by omega) (by omega) kac3 kbc3 fa.1 fb.1 ⟨?_, oac3, ?_⟩ (fun y2 J2 R2 => h y2 ?_)
      · rw [zI_wI, if_neg (fun q => nk 1 (by decide) q.1.symm)]; exact u1
      · rw [if_pos rfl]
        refine ⟨?_, ?_, rfl, fun i hi => ?_⟩
        · show zG v a 2 = ((subL t (st.1 + 1) (x - (st.1 + 1)).toNat).length : Int)
          rw [u2, subL_len]; omega
        · show ((subL t (st.1 + 1) (x - (st.1 + 1)).toNat).length : Int) ≤ zN v ba
          rw [nbc3, subL_len]; omega
        · replace hi : i < (subL t (st.1 + 1) (x - (st.1 + 1)).toNat).length := hi
          rw [subL_len] at hi
          show zI (wI v (b 1) 9 (x + 1)) ba i = (subL t (st.1 + 1) (x - (st.1 + 1)).toNat).getD i 0
          rw [zI_wI, if_neg (fun q => nkb 1 (by decide) q.1.symm), u3, bytes i (by omega), subL_at hi]
      · exact Or.inl ⟨J2, x + 1, R2, rfl, by omega, by omega⟩
    · rw [if_neg (fun q => c34 ((sb_i Cz (by decide) (by decide)).mp q)), w32e (x := x - (st.1 + 1)) (by omega) (by omega)]
      rw [if_neg c34, if_neg c1] at hq
      by_cases c24 : x - (st.1 + 1) = 24
      · rw [if_pos c24]
        rw [if_pos c24] at hq
        show (zK z (b 1) = 6 ∧ F_X5_fail (b 1) 1 (zI z (b 1) 9) z (fun z_81 => P z_81))
        refine ⟨cK cz 1 rfl rfl, ?_⟩
        rw [z9]
        exact flt _ hq
      · rw [if_neg c24]
        rw [if_neg c24] at hq
        refine o_pln Cz (fun d => ?_) (fun d => ?_)
        · rw [if_neg (by decide), w32e (by omega) (by omega)]
          rw [if_neg (by rw [d]; decide)] at hq
          exact ih (x + 1) ⟨⟨by omega, by omega, by omega⟩, by rw [hq]; congr 2; omega⟩ (by omega)
        · rw [if_pos rfl]
          rw [if_pos d] at hq
          show (zK z (b 1) = 6 ∧ F_X5_fail (b 1) 1 x z (fun z_100 => P z_100))
          exact ⟨cK cz 1 rfl rfl, flt _ hq⟩
