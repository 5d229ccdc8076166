/-! ===== merging: two lines put together, the system ===== -/
def wJl : WR := [(31, none)]
/-- the Merger's line -/
def LnZ (z : Z) (b : Nat → Nat) (L : List Int) : Prop := ∀ i, 0 ≤ i → i < (L.length : Int) → zI z (b 31) i = gI L i + 1
theorem Mg3_fr {z y : Z} {b : Nat → Nat} {I : Nat → Prop} {a1 a2 a3 : Nat} {w t d : Sh} {L : WR} (c : CWz z b) (r : Frz z b I) (f : FrZ (WL z b L no1 no1) z y) (hd : wDis L [(5, some 3), (5, some 4), (5, some 5)] = true) (M : Mg3 z b I a1 a2 a3 w t d) : Mg3 y b I a1 a2 a3 w t d := by
  obtain ⟨⟨k5, o3, o4, o5⟩, h1, h2, h3⟩ := M
  have e : ∀ i, wHas [(5, some 3), (5, some 4), (5, some 5)] 5 i → zO y (b 5) i = zO z (b 5) i := fun i hi => (bI c f hd (k := 5) (by decide) hi).2.2
  have k5' : zK y (b 5) = 4 := (f.1 (b 5) (by rw [k5]; decide)).1.trans k5
  exact ⟨⟨k5', (e 3 (wHas_i (by decide))).trans o3, (e 4 (wHas_i (by decide))).trans o4, (e 5 (wHas_i (by decide))).trans o5⟩, ShC_fr f (WL_I r) (WL_7 c) h1, ShC_fr f (WL_I r) (WL_7 c) h2, ShC_fr f (WL_I r) (WL_7 c) h3⟩
theorem LnC_fr {z y : Z} {b : Nat → Nat} {I : Nat → Prop} {L : WR} {la : Nat} {s : Sh} {ax : Int} (r : Frz z b I) (f : FrZ (WL z b L no1 no1) z y) (i : I la) (h : LnC z la s ax) : LnC y la s ax := by
  obtain ⟨l1, l2, l3⟩ := h
  have kne : zK z la ≠ 0 := (r la i).1
  exact ⟨(f.1 la kne).1.trans l1, (f.1 la kne).2.trans l2, fun k k0 k1 => ((f.2 la k kne (WL_I r la k i)).1).trans (l3 k k0 k1)⟩
theorem o_idx {z : Z} {b : Nat → Nat} {L : List Int} {id : Int} {P : Int → Prop} (c : CWz z b) (l : LnZ z b L) (hn : L.length ≤ 64) (h : P (idxL L id + 1)) : F_X11_placeIn (some (b 31)) (L.length : Int) (id + 1) z P := by
  refine k_placeIn (cK c 31 rfl rfl) (by omega) (by rw [cN c 31 (c := 64) rfl rfl]; omega) (by omega) ?_
  rw [plc_e (f' := gI L) (x' := id) (fun j j0 j1 => by rw [l j j0 j1]; omega)]; exact h
theorem k_copyOf {z : Z} {a : Nat} {n : Int} {c s : Nat} {P : Option Nat → Z → Prop} (ka : zK z a = 15) (n0 : 0 ≤ n) (n1 : n ≤ zN z a) (n2 : zN z a ≤ 1000) (hc : 1 ≤ c) (hs : n ≤ (s : Int)) (h : ∀ q y, FrZ nW z y → zK z q = 0 → zK y q = 15 → zN y q = n → (∀ i, 0 ≤ i → i < n → zI y q i = zI z a i) → (∀ k, zK z k = 0 → k ≠ q → zK y k = 0) → P (some q) y) : F_J7_copyOf_59c91 (some a) n z c s P := by
  unfold F_J7_copyOf_59c91
  refine ⟨a, rfl, ka, ?_⟩
  by_cases e : n = zN z a
  · rw [if_pos e]
    refine ⟨hc, by omega, fun q hq => ?_⟩
    rintro _ rfl
    have aq : a ≠ q := fun g => by rw [g, hq] at ka; cases ka
    refine h q _ ⟨fun k hk => ?_, fun k i hk _ => ?_⟩ hq ?_ ?_ (fun i i0 i1 => ?_) (fun k hk hn => ?_)
    · have kq : k ≠ q := fun g => hk (by rw [g]; exact hq)
      exact ⟨by show (if k = q then 15 else zK z k) = _; rw [if_neg kq], by show (if k = q then zN z a else zN z k) = _; rw [if_neg kq]⟩
    · have kq : k ≠ q := fun g => hk (by rw [g]; exact hq)
      exact ⟨by show (if k = q then zI z a i else zI z k i) = _; rw [if_neg kq], by show (if k = q then 0 else zG z k i) = _; rw [if_neg kq], by show (if k = q then none else zO z k i) = _; rw [if_neg kq]⟩
    · show (if q = q then 15 else zK z q) = 15; rw [if_pos rfl]
    · show (if q = q then zN z a else zN z q) = n; rw [if_pos rfl]; exact e.symm
    · show (if q = q then zI z a i else zI z q i) = _; rw [if_pos rfl]
    · show (if k = q then 15 else zK z k) = 0; rw [if_neg hn]; exact hk
  · rw [if_neg e]
    refine ⟨n0, by omega, hc, by omega, fun q hq => ?_⟩
    rintro _ rfl
    have aq : a ≠ q := fun g => by rw [g, hq] at ka; cases ka
    have ka' : zK (nZ z q 15 n) a = 15 := by rw [zK_nZ, if_neg aq]; exact ka
    have na' : zN (nZ z q 15 n) a = zN z a := by rw [zN_nZ, if_neg aq]
    have nq' : zN (nZ z q 15 n) q = n := by rw [zN_nZ, if_pos rfl]
    refine ⟨a, rfl, ka', by decide, by decide, by rw [na']; omega, by rw [na']; omega, by rw [na', nq']; omega, ?_⟩
    rintro _ rfl
    have f0 : FrZ nW z (nZ z q 15 n) := FrZ_nZ FrZ_rf hq
    refine h q _ ⟨fun k hk => f0.1 k hk, fun k i hk hn => ?_⟩ hq ?_ ?_ (fun i i0 i1 => ?_) (fun k hk hn => ?_)
    · have kq : k ≠ q := fun g => hk (by rw [g]; exact hq)
      refine ⟨?_, (f0.2 k i hk hn).2.1, (f0.2 k i hk hn).2.2⟩
      rw [zI_cpI2, if_neg (fun g => kq g.1)]; exact (f0.2 k i hk hn).1
    · show zK (nZ z q 15 n) q = 15; rw [zK_nZ, if_pos rfl]
    · show zN (nZ z q 15 n) q = n; exact nq'
    · rw [zI_cpI2, if_pos ⟨rfl, i0, by rw [na']; omega⟩, zI_nZ, if_neg aq, show (0 : Int) + (i - 0) = i by omega]
    · show zK (nZ z q 15 n) k = 0; rw [zK_nZ, if_neg hn]; exact hk
/-- the line of the first sheet, as the Merger asks -/
theorem o_staysP {v : Z} {b : Nat → Nat} {I : Nat → Prop} {a1 a2 a3 : Nat} {w t d p o : Sh} {ax id : Int} {K : Int → Prop} (hw : WzI v I) (hax : ax = 0 ∨ ax = 1) (M : Mg3 v b I a1 a2 a3 w t d) (cs : CoS w) (ct : CoS t) (cd : CoS d) (hpo : p = t ∧ o = w ∨ p = w ∧ o = t) (hp : 0 ≤ plS p ax id) (hk : K (cb (stP p o d ax id))) : F_X3_stays (b 5) ax (id + 1) v K := by
  rcases hpo with ⟨e1, e2⟩ | ⟨e1, e2⟩
  · rw [e1] at hp
    rw [e1, e2] at hk
    refine o_stays hw hax M cs ct cd ?_ (Or.inr hp)
    by_cases q : 0 ≤ plS w ax id
    · rw [if_pos q]
      rw [cb_1 (p := stP t w d ax id) (Or.inl q)] at hk
      rw [cb_1 (p := stP w t d ax id) (Or.inl hp)]; exact hk
    · rw [if_neg q]; exact hk
  · rw [e1] at hp
    rw [e1, e2] at hk
    refine o_stays hw hax M cs ct cd ?_ (Or.inl hp)
    rw [if_pos hp]; exact hk
/-- a line's end moved on, one put in -/
theorem o_putLine {z v : Z} {b : Nat → Nat} {I : Nat → Prop} {lo : Nat} {o : Sh} {ax k a : Int} {x1 : Int} {L : List Int} {c s : Nat} {P : (Int × Int × Int × Z) ⊕ ((Int × Z)) → Prop} (cw : CWz z b) (r : Frz z b I) (hlo : LnC z lo o ax) (io : I lo) (fv : FrZ (WL z b wJl no1 no1) z v) (zv : ∀ k, zK z k = 0 → zK v k = 0) (l : LnZ v b L) (a0 : 0 ≤ a) (a1 : a ≤ (L.length : Int)) (hn : L.length < 64) (k0 : 0 ≤ k) (k1 : k < lnS o ax) (k32 : k ≤ 40) (h : ∀ y, FrZ (WL z b wJl no1 no1) z y → (∀ k, zK z k = 0 → zK y k = 0) → LnZ y b (insL L a (idS o ax k)) → P (.inl ((L.length : Int) + 1, a + 1, k + 1, y))) : F_X3_joinedLine_184 (b 5) x1 (some lo) (L.length : Int) a k (L.length : Int) v c s P := by
  unfold F_X3_joinedLine_184
  refine lp_I (S := Int × Z) (fun q => (a ≤ q.1 ∧ q.1 ≤ (L.length : Int)) ∧ FrZ (WL z b wJl no1 no1) z q.2 ∧ (∀ k, zK z k = 0 → zK q.2 k = 0) ∧ (∀ i, 0 ≤ i → i < q.1 → zI q.2 (b 31) i = gI L i + 1) ∧ ∀ i, q.1 < i → i ≤ (L.length : Int) → zI q.2 (b 31) i = gI L (i - 1) + 1) (fun q => (q.1 - a).toNat) ?_ ((L.length : Int), v) ⟨⟨a1, Int.le_refl _⟩, fv, zv, l, fun i i0 i1 => by replace i0 : (L.length : Int) < i := i0; omega⟩
  rintro G ⟨j, y⟩ ⟨⟨j0, j1⟩, fy, zy, y2, y3⟩ ih
  simp only at j0 j1 fy zy y2 y3
  unfold L_X3_joinedLine_184
  dsimp only
  have cy := CWz_fr cw fy (by decide)
  by_cases e : j ≤ a
  · rw [if_pos e]
    have ej : j = a := by omega
    show zK y (b 5) = 4 ∧ _
    obtain ⟨l1, l2, l3⟩ := LnC_fr r fy io hlo
    refine ⟨cK cy 5 rfl rfl, lo, rfl, l1, k0, by rw [l2]; exact k1, b 31, cO cy 5 1 31 (by decide), cK cy 31 rfl rfl, a0, by rw [cN cy 31 (c := 64) rfl rfl]; omega, ?_⟩
    rw [l3 k k0 k1]
    rintro _ rfl
    unfold F_X3_joinedLine_231
    rw [w32e (x := (L.length : Int) + 1) (by omega) (by omega), w32e (x := a + 1) (by omega) (by omega), w32e (x := k + 1) (by omega) (by omega)]
    refine h _ (FrZ_wI fy (Or.inl (WL_a (by decide) (by decide)))) (fun q hq => zy q hq) (fun i i0 i1 => ?_)
    rw [insL_n a1] at i1
    rw [zI_wI, insL_g a0 a1 i0]
    by_cases c1 : i < a
    · rw [if_pos c1, if_neg (by omega)]; exact y2 i i0 (by omega)
    · rw [if_neg c1]
      by_cases c2 : i = a
      · rw [if_pos c2, if_pos ⟨rfl, c2⟩]
      · rw [if_neg c2, if_neg (fun g => c2 g.2)]; exact y3 i (by omega) (by omega)
  · rw [if_neg e, w32e (x := j - 1) (by omega) (by omega), w32e (x := j + -1) (by omega) (by omega)]
    refine ⟨cK cy 5 rfl rfl, b 31, cO cy 5 1 31 (by decide), cK cy 31 rfl rfl, by omega, by rw [cN cy 31 (c := 64) rfl rfl]; omega, by omega, by rw [cN cy 31 (c := 64) rfl rfl]; omega, ?_⟩
    rintro _ rfl
    refine ih (j + -1, wI y (b 31) j (zI y (b 31) (j - 1))) ⟨⟨by show a ≤ j + -1; omega, by show j + -1 ≤ _; omega⟩, FrZ_wI fy (Or.inl (WL_a (by decide) (by decide))), fun q hq => zy q hq, fun i i0 i1 => ?_, fun i i0 i1 => ?_⟩ (by show (j + -1 - a).toNat < (j - a).toNat; omega)
    · replace i1 : i < j + -1 := i1
      show zI (wI y _ _ _) (b 31) i = _
      rw [zI_wI, if_neg (by omega)]; exact y2 i i0 (by omega)
    · replace i0 : j + -1 < i := i0
      show zI (wI y _ _ _) (b 31) i = _
      rw [zI_wI]
      by_cases c1 : i = j
      · rw [if_pos ⟨rfl, c1⟩, c1]; exact y2 (j - 1) (by omega) (by omega)
      · rw [if_neg (fun g => c1 g.2)]; exact y3 i (by omega) i1
theorem o_jnL {z y : Z} {b : Nat → Nat} {I : Nat → Prop} {a1 a2 a3 lq lo : Nat} {w t d p o : Sh} {ax : Int} {c s : Nat} {P : Option Nat → Z → Prop} (W : ∀ v, FrZ (WL z b wJl no1 no1) z v → WzI v I) (cw : CWz z b) (r : Frz z b I) (hax : ax = 0 ∨ ax = 1) (M : Mg3 z b I a1 a2 a3 w t d) (cs : CoS w) (ct : CoS t) (cd : CoS d) (bp : ShB p) (bo : ShB o) (d2 : DsS o) (hpo : p = t ∧ o = w ∨ p = w ∧ o = t) (hlp : LnC z lq p ax) (hlo : LnC z lo o ax) (ip : I lq) (io : I lo) (f : FrZ (WL z b wJl no1 no1) z y) (hz : ∀ k, zK z k = 0 → zK y k = 0) (hc : 1 ≤ c) (hs : 64 ≤ s) (h : ∀ q v, FrZ (WL z b wJl no1 no1) z v → zK z q = 0 → zK v q = 15 → zN v q = ((jnL p o d ax).length : Int) → (∀ i, 0 ≤ i → i < ((jnL p o d ax).length : Int) → zI v q i = gI (jnL p o d ax) i + 1) → (jnL p o d ax).length ≤ 64 → (∀ k, zK z k = 0 → k ≠ q → zK v k = 0) → P (some q) v) : F_X3_joinedLine_55 (b 5) ax (some lq) (some lo) y c s P := by
  have lp1 := lnS_b bp ax
  have lo1 := lnS_b bo ax
  have m32 := mst_32 ax
  have hop : o = t ∧ p = w ∨ o = w ∧ p = t := by rcases hpo with ⟨e1, e2⟩ | ⟨e1, e2⟩; exact Or.inr ⟨e2, e1⟩; exact Or.inl ⟨e2, e1⟩
  unfold F_X3_joinedLine_55 F_X3_joinedLine_63
  refine lp_I (S := Int × Int × Z) (fun q => (0 ≤ q.2.1 ∧ q.2.1 ≤ lnS p ax) ∧ FrZ (WL z b wJl no1 no1) z q.2.2 ∧ (∀ k, zK z k = 0 → zK q.2.2 k = 0) ∧ ∃ E : List Int, q.1 = (E.length : Int) ∧ LnZ q.2.2 b E ∧ E ++ jn1 p o d ax (lnS p ax - q.2.1).toNat q.2.1 = jn1 p o d ax (lnS p ax).toNat 0 ∧ (E.length : Int) ≤ q.2.1) (fun q => (lnS p ax - q.2.1).toNat) ?_ (0, 0, y) ⟨⟨by show (0 : Int) ≤ 0; decide, by show (0 : Int) ≤ _; omega⟩, f, hz, [], rfl, fun i i0 i1 => absurd i1 (by show ¬ i < 0; omega), by show [] ++ jn1 p o d ax (lnS p ax - 0).toNat 0 = _; rw [Int.sub_zero, List.nil_append], by show (0 : Int) ≤ 0; decide⟩
  rintro G ⟨n, k, v⟩ ⟨⟨k0, k1⟩, fv, zv, E, en, lE, eE, nE⟩ ih
  simp only at k0 k1 fv zv en lE eE nE
  unfold L_X3_joinedLine_63 F_X3_joinedLine_109
  dsimp only
  obtain ⟨l1, l2, l3⟩ := LnC_fr r fv ip hlp
  have cv := CWz_fr cw fv (by decide)
  refine ⟨lq, rfl, l1, ?_⟩
  rw [l2]
  by_cases ek : lnS p ax ≤ k
  · rw [if_pos ek]
    rw [show (lnS p ax - k).toNat = 0 by omega, jn1, List.append_nil] at eE
    clear ih
    show F_X3_joinedLine_121 (b 5) ax (some lo) n 0 0 v c s P
    unfold F_X3_joinedLine_121
    refine lp_I (S := Int × Int × Int × Z) (fun q => (0 ≤ q.2.2.1 ∧ q.2.2.1 ≤ lnS o ax) ∧ FrZ (WL z b wJl no1 no1) z q.2.2.2 ∧ (∀ k, zK z k = 0 → zK q.2.2.2 k = 0) ∧ ∃ L : List Int, q.1 = (L.length : Int) ∧ LnZ q.2.2.2 b L ∧ jn2 p o d ax (lnS o ax - q.2.2.1).toNat q.2.2.1 L q.2.1 = jnL p o d ax ∧ Ahd p o ax q.2.2.1 L q.2.1 ∧ (L.length : Int) ≤ 32 + q.2.2.1) (fun q => (lnS o ax - q.2.2.1).toNat) ?_ (n, 0, 0, v) ⟨⟨by show (0 : Int) ≤ 0; decide, by show (0 : Int) ≤ _; omega⟩, fv, zv, E, en, lE, by show jn2 p o d ax (lnS o ax - 0).toNat 0 E 0 = _; rw [Int.sub_zero, eE]; rfl, by rw [eE]; exact Ahd_0, by show (E.length : Int) ≤ 32 + 0; omega⟩
    clear fv lE eE nE l1 l2 l3 cv en zv
    rintro G ⟨n, a, k, v⟩ ⟨⟨k0, k1⟩, fv, zv, L, en, lL, eL, hA, nL⟩ ih
    simp only at k0 k1 fv zv en lL eL hA nL
    rw [en]
    unfold L_X3_joinedLine_121
    dsimp only
    obtain ⟨l1, l2, l3⟩ := LnC_fr r fv io hlo
    have cv := CWz_fr cw fv (by decide)
    refine ⟨lo, rfl, l1, ?_⟩
    rw [l2]
    by_cases ek : lnS o ax ≤ k
    · rw [if_pos ek]
      rw [show (lnS o ax - k).toNat = 0 by omega, jn2] at eL
      show zK v (b 5) = 4 ∧ _
      refine ⟨cK cv 5 rfl rfl, c, s, Nat.le_refl _, Nat.le_refl _, ?_⟩
      rw [cO cv 5 1 31 (by decide)]
      have n31 := cN cv 31 (c := 64) rfl rfl
      refine k_copyOf (cK cv 31 rfl rfl) (by omega) (by omega) (by omega) hc (by omega) (fun q y' fq hq y15 yn yi yz => ?_)
      have hzq : zK z q = 0 := by
        by_cases e0 : zK z q = 0
        · exact e0
        · rw [(fv.1 q e0).1] at hq; exact absurd hq e0
      refine h q y' (FrZ_wl fv (FrZ_mono fq (fun _ _ _ g => g.elim))) hzq y15 (by rw [← eL]; exact yn) (fun i i0 i1 => ?_) (by rw [← eL]; omega) (fun k hk hn => yz k (zv k hk) hn)
      rw [← eL] at i1 ⊢
      rw [yi i i0 i1]; exact lL i i0 i1
    · rw [if_neg ek]
      rw [show (lnS o ax - k).toNat = (lnS o ax - (k + 1)).toNat + 1 by omega, jn2] at eL
      refine ⟨cK cv 5 rfl rfl, k0, by omega, ?_⟩
      rw [l3 k k0 (by omega), cO cv 5 1 31 (by decide)]
      refine o_idx cv lL (by omega) ?_
      have iff := hA.2.2 k (by omega) (by omega)
      by_cases e1 : 0 ≤ plS p ax (idS o ax k)
      · rw [if_pos e1] at eL
        have hi := idxL_mem.mpr (iff.mp e1)
        rw [if_neg (by omega)]
        unfold F_X3_joinedLine_231
        rw [w32e (x := k + 1) (by omega) (by omega)]
        exact ih ((L.length : Int), idxL L (idS o ax k) + 1, k + 1, v) ⟨⟨by show 0 ≤ k + 1; omega, by show k + 1 ≤ _; omega⟩, fv, zv, L, rfl, lL, eL, Ahd_p hA k0 (by omega) e1, by show (L.length : Int) ≤ 32 + (k + 1); omega⟩ (by show (_ - (k + 1)).toNat < (_ - k).toNat; omega)
      · rw [if_neg e1] at eL
        have hi : ¬ 0 ≤ idxL L (idS o ax k) := fun g => e1 (iff.mpr (idxL_mem.mp g))
        rw [if_pos (by omega)]
        refine o_staysP (W v fv) hax (Mg3_fr cw r fv (by decide) M) cs ct cd hop (plS_in k0 (by omega)) ?_
        by_cases e2 : stP o p d ax (idS o ax k)
        · rw [cb_1 e2, if_neg (by decide)]; rw [ci_1 e2] at eL
          refine ⟨b 31, rfl, cK cv 31 rfl rfl, ?_⟩
          rw [cN cv 31 (c := 64) rfl rfl, if_neg (by omega)]
          refine o_putLine cw r hlo io fv zv lL hA.1.1 hA.1.2 (by omega) k0 (by omega) (by omega) (fun y' fy' zy' ly' => ?_)
          exact ih ((L.length : Int) + 1, a + 1, k + 1, y') ⟨⟨by show 0 ≤ k + 1; omega, by show k + 1 ≤ _; omega⟩, fy', zy', _, by show (L.length : Int) + 1 = ((insL L a _).length : Int); rw [insL_n hA.1.2]; rfl, ly', eL, Ahd_i d2 hax hA k0 (by omega) e1, by show ((insL L a _).length : Int) ≤ 32 + (k + 1); rw [insL_n hA.1.2]; omega⟩ (by show (_ - (k + 1)).toNat < (_ - k).toNat; omega)
        · rw [cb_0 e2, if_pos rfl]; rw [ci_0 e2] at eL
          unfold F_X3_joinedLine_231
          rw [w32e (x := k + 1) (by omega) (by omega)]
          exact ih ((L.length : Int), a, k + 1, v) ⟨⟨by show 0 ≤ k + 1; omega, by show k + 1 ≤ _; omega⟩, fv, zv, L, rfl, lL, eL, Ahd_s hA (by omega) e1, by show (L.length : Int) ≤ 32 + (k + 1); omega⟩ (by show (_ - (k + 1)).toNat < (_ - k).toNat; omega)
  · rw [if_neg ek]
    rw [show (lnS p ax - k).toNat = (lnS p ax - (k + 1)).toNat + 1 by omega, jn1, ← List.append_assoc] at eE
    refine ⟨k0, by omega, cK cv 5 rfl rfl, ?_⟩
    rw [l3 k k0 (by omega), w32e (x := k + 1) (by omega) (by omega)]
    refine o_staysP (W v fv) hax (Mg3_fr cw r fv (by decide) M) cs ct cd hpo (plS_in k0 (by omega)) ?_
    by_cases e2 : stP p o d ax (idS p ax k)
    · rw [cb_1 e2, if_neg (by decide)]; rw [ci_1 e2] at eE
      refine ⟨b 31, cO cv 5 1 31 (by decide), cK cv 31 rfl rfl, ?_⟩
      rw [cN cv 31 (c := 64) rfl rfl, if_neg (by omega)]
      refine ⟨by omega, by omega, ?_⟩
      rintro _ rfl
      rw [w32e (by omega) (by omega)]
      refine ih (n + 1, k + 1, wI v (b 31) n (idS p ax k + 1)) ⟨⟨by show 0 ≤ k + 1; omega, by show k + 1 ≤ _; omega⟩, FrZ_wI fv (Or.inl (WL_a (by decide) (by decide))), fun q hq => zv q hq, E ++ [idS p ax k], by show n + 1 = _; rw [List.length_append, en]; rfl, fun i i0 i1 => ?_, eE, by show (((E ++ [_]).length : Nat) : Int) ≤ k + 1; rw [List.length_append]; simp only [List.length_cons, List.length_nil]; omega⟩ (by show (_ - (k + 1)).toNat < (_ - k).toNat; omega)
      rw [List.length_append] at i1
      simp only [List.length_cons, List.length_nil] at i1
      show zI (wI v (b 31) n (idS p ax k + 1)) (b 31) i = _
      rw [zI_wI, ← insL_end, insL_g (by omega) (by omega) i0]
      by_cases c2 : i = n
      · rw [if_pos ⟨rfl, c2⟩, if_neg (by omega), if_pos (by omega)]
      · rw [if_neg (fun g => c2 g.2), if_pos (by omega)]; exact lE i i0 (by omega)
    · rw [cb_0 e2, if_pos rfl]; rw [ci_0 e2, List.append_nil] at eE
      exact ih (n, k + 1, v) ⟨⟨by show 0 ≤ k + 1; omega, by show k + 1 ≤ _; omega⟩, fv, zv, E, en, lE, eE, by show (E.length : Int) ≤ k + 1; omega⟩ (by show (_ - (k + 1)).toNat < (_ - k).toNat; omega)
/-- joinedLine: one line of both -/
theorem o_joinL {z y : Z} {b : Nat → Nat} {I : Nat → Prop} {a1 a2 a3 : Nat} {w t d : Sh} {ax : Int} {c s : Nat} {P : Option Nat → Z → Prop} (W : ∀ v, FrZ (WL z b wJl no1 no1) z v → WzI v I) (cw : CWz z b) (r : Frz z b I) (hax : ax = 0 ∨ ax = 1) (M : Mg3 z b I a1 a2 a3 w t d) (cs : CoS w) (ct : CoS t) (cd : CoS d) (dw : DsS w) (dt : DsS t) (dd : DsS d) (f : FrZ (WL z b wJl no1 no1) z y) (hz : ∀ k, zK z k = 0 → zK y k = 0) (hc : 1 ≤ c) (hs : 64 ≤ s) (h : ∀ q v, FrZ (WL z b wJl no1 no1) z v → zK z q = 0 → zK v q = 15 → zN v q = ((joinL w t d ax).length : Int) → (∀ i, 0 ≤ i → i < ((joinL w t d ax).length : Int) → zI v q i = gI (joinL w t d ax) i + 1) → (joinL w t d ax).length ≤ 64 → (∀ k, zK z k = 0 → k ≠ q → zK v k = 0) → P (some q) v) : F_X3_joinedLine (b 5) ax y c s P := by
  obtain ⟨⟨k5, o3, o4, o5⟩, h1, h2, h3⟩ := Mg3_fr cw r f (by decide) M
  have bw := ShC_b h1
  have bt := ShC_b h2
  have bd := ShC_b h3
  unfold F_X3_joinedLine F_X3_joinedLine_43
  refine ⟨k5, a1, o3, ShC_7 h1, o_lineS hax h1 (fun la hla ila => ⟨a2, o4, ShC_7 h2, o_lineS hax h2 (fun lb hlb ilb => ⟨a3, o5, ShC_7 h3, o_lineS hax h3 (fun ld hld ild => ?_)⟩)⟩)⟩
  refine o_sameOrder hax hla hld hlb bw bd bt dw dd ?_
  have bk : ∀ {l : Nat} {q : Sh}, I l → LnC y l q ax → LnC z l q ax := fun {l q} il hl => by
    obtain ⟨g1, g2, g3⟩ := hl
    have kne : zK z l ≠ 0 := (r l il).1
    exact ⟨by rw [← (f.1 l kne).1]; exact g1, by rw [← (f.1 l kne).2]; exact g2, fun k k0 k1 => by rw [← (f.2 l k kne (WL_I r l k il)).1]; exact g3 k k0 k1⟩
  unfold joinL at h
  by_cases e : ordP w d t ax
  · rw [cb_1 e, if_neg (by decide), if_neg (by decide)]
    rw [ci_1 e] at h
    exact o_jnL W cw r hax M cs ct cd bt bw dw (Or.inl ⟨rfl, rfl⟩) (bk ilb hlb) (bk ila hla) ilb ila f hz hc hs h
  · rw [cb_0 e, if_pos rfl, if_pos rfl]
    rw [ci_0 e] at h
    exact o_jnL W cw r hax M cs ct cd bw bt dt (Or.inr ⟨rfl, rfl⟩) (bk ila hla) (bk ilb hlb) ila ilb f hz hc hs h
