/-! ===== the reference reads places ===== -/
theorem NwP_op {v : Mu} {q op κ n s : Int} (h : NwP v q κ n s) (hop : (1 ≤ op ∧ op ≤ 35) ∧ op ≠ 14) (hk : κ = kM (opP op n)) : PrR v q (opP op n) := by
  obtain ⟨a1, a2, a3, a4, a5, a6, ⟨a7, a8, a9, a10⟩, a11, a12⟩ := h
  have e34 : (-1 : Int) = (if op = 16 then -1 else 0 - 1) := by split <;> rfl
  exact ⟨⟨hop.1, fun e => absurd e hop.2⟩, a1.trans hk, a2, ⟨a4, a5, a6⟩, a7, a8, a9.trans e34, a10.trans e34, a12⟩
theorem fM_op {op n nx : Int} (h : op ≠ 16 ∨ ¬ isRC nx) : fM (opP op n) nx = 0 := by
  unfold fM
  show sw2 (0 % 4) + (if op = 16 then (if nx = 29 ∨ nx = 30 then 16 else 0) else 4 * sw2 (0 / 4)) = 0
  rw [show sw2 (0 % 4) = 0 by decide, show sw2 (0 / 4) = 0 by decide]
  by_cases c : op = 16
  · rw [if_pos c, if_neg (show ¬ (nx = 29 ∨ nx = 30) from h.resolve_left (not_not_intro c))]; rfl
  · rw [if_neg c]; rfl
theorem nRC0 : ¬ isRC 0 := by unfold isRC; omega
theorem TkM_a {t : Tx} {u v : Mu} {q k : Int} (A : AdQ u v q) (h : TkM t u k) : TkM t v k := by
  have e : ∀ i, 46 ≤ i → i ≤ 54 → mI v 0 i = mI u 0 i := fun i a b => A.1 0 i (by omega) (by omega) (by omega)
  unfold TkM TkX at h ⊢
  rw [e 46 (by omega) (by omega), e 47 (by omega) (by omega), e 48 (by omega) (by omega), e 49 (by omega) (by omega), e 50 (by omega) (by omega), e 51 (by omega) (by omega), e 52 (by omega) (by omega), e 53 (by omega) (by omega), e 54 (by omega) (by omega)]
  exact h
theorem i_op {u0 u : Mu} {d : Prop} {o nl a op κ : Int} {n : Nat} {ps : List Prt} {lt : Int × Int} {P : Int → Mu → Prop} (B : PmB u0) (R : PmR u0 u d o nl a ps lt) (hl : ps.length ≤ 400) (hn : n ≤ 400) (hz : ps.length = 0 → n = 0) (hop : (1 ≤ op ∧ op ≤ 35) ∧ op ≠ 14) (hk : κ = kM (opP op (n : Int))) (hs : spE (ps ++ [opP op (n : Int)]) ≤ ps.length + 1) (hnl : ¬ d → lt.1 = 0 → (isRC nl ↔ isRC op) ∨ lastO ps ≠ 16) (h : ∀ v, PmR u0 v d o 0 a (ps ++ [opP op (n : Int)]) lt → AdQ u v (mI u0 0 25 + ps.length) → NwP v (mI u0 0 25 + ps.length) κ (n : Int) (spE (ps ++ [opP op (n : Int)])) → P (mI u0 0 25 + ps.length) v) : F_X12_part κ (n : Int) u P := by
  have es : spE (ps ++ [opP op (n : Int)]) = 1 + undS (spnL ps) n ((ps.length : Int) - 1) := by rw [spE_snoc]; rfl
  rw [es] at hs h
  refine i_prt B R hl hn hz hs (fun v A N e19 => h v ?_ A N)
  refine PmR_add B R A (NwP_op N hop hk) (by rw [N.2.2.1, es]) (fun _ _ => ?_) hnl (by rw [e19]; exact R.2.2.1)
  rw [fM_op (Or.inr nRC0)]; exact N.2.2.2.2.2.2.2.1
theorem Sh_p {t : Tx} {S : SS} {u0 u : Mu} {d : Prop} {o nl a v : Int} {ps : List Prt} {lt : Int × Int} (E : EnP t S u0) (R : PmR u0 u d o nl a ps lt) (hv : isShP v S) : (mI u 1 (slt v) = (shOf v S).1.1 ∧ mI u 2 (slt v) = (shOf v S).1.2) ∧ ((1 ≤ (shOf v S).1.1 ∧ (shOf v S).1.1 ≤ 32) ∧ 1 ≤ (shOf v S).1.2 ∧ (shOf v S).1.2 ≤ 10) ∧ (∀ k, 0 ≤ k → k < (shOf v S).1.1 → mI u 3 (32 * slt v + k) = idS (shOf v S) 0 k) ∧ ∀ k, 0 ≤ k → k < (shOf v S).1.2 → mI u 4 (10 * slt v + k) = idS (shOf v S) 1 k := by
  obtain ⟨⟨⟨m1, m2⟩, m3, m4, m5⟩, sb⟩ := E.2.2.2 v hv
  have f := R.1.1
  exact ⟨⟨(mE f (R := [(1, none)]) (by decide) (wHas_a (by decide))).trans m1, (mE f (R := [(2, none)]) (by decide) (wHas_a (by decide))).trans m2⟩, sb, fun k a b => (mE f (R := [(3, none)]) (by decide) (wHas_a (by decide))).trans (m3 k a b), fun k a b => (mE f (R := [(4, none)]) (by decide) (wHas_a (by decide))).trans (m4 k a b)⟩
theorem i_there {t : Tx} {S : SS} {u0 u : Mu} {d : Prop} {o nl a v r c : Int} {ps : List Prt} {lt : Int × Int} {P : Int → Prop} (E : EnP t S u0) (R : PmR u0 u d o nl a ps lt) (hv : -1 ≤ v) (hy : thP S v r c → P 1) (hn : ¬ thP S v r c → P 0) : F_X12_isThere v r c u P := by
  have e8 : mI u 0 8 = S.2.1.1 := (mE R.1.1 (R := [(0, some 8)]) (by decide) (wHas_i (by decide))).trans E.2.2.1.1
  have v40 := E.2.2.1.2
  unfold F_X12_isThere F_X12_isThere_31 F_X12_isThere_19 F_X12_isThere_32
  rw [e8]
  by_cases c1 : S.2.1.1 ≤ v
  · rw [if_pos c1]
    exact ⟨z1_0, hn (fun q => by have := q.1.2; omega)⟩
  · rw [if_neg c1]
    have iv : isShP v S := ⟨hv, by omega⟩
    obtain ⟨⟨s1, s2⟩, sb, -⟩ := Sh_p E R iv
    have key : ∀ s, s = slt v → F_X12_isCell s r c u (fun x_21 => if x_21 = 0 then (Z1 0 ∧ P 0) else (Z1 1 ∧ P 1)) := by
      rintro s rfl
      refine i_isCell (by unfold slt; split <;> omega) (by unfold slt; split <;> omega) ?_
      rw [s1, s2]
      by_cases q : (1 ≤ r ∧ r ≤ (shOf v S).1.1) ∧ 1 ≤ c ∧ c ≤ (shOf v S).1.2
      · rw [tb, if_pos q, if_neg (by decide)]; exact ⟨z1_1, hy ⟨iv, q⟩⟩
      · rw [tb, if_neg q, if_pos rfl]; exact ⟨z1_0, hn (fun w' => q w'.2)⟩
    by_cases c2 : 0 ≤ v
    · rw [if_pos c2]; exact key v (by unfold slt; rw [if_neg (by omega)])
    · rw [if_neg c2]; exact key 40 (by unfold slt; rw [if_pos (by omega)])
theorem i_mean {t : Tx} {S : SS} {u0 u : Mu} {d : Prop} {o nl a v r c fx q : Int} {ps : List Prt} {lt : Int × Int} {P : Mu → Prop} (E : EnP t S u0) (R : PmR u0 u d o nl a ps lt) (hT : thP S v r c) (q0 : 0 ≤ q ∧ q < 60420) (h : ∀ y, OnQ u y q → mI y 32 q = idS (shOf v S) 0 (r - 1) → mI y 33 q = idS (shOf v S) 1 (c - 1) → mI y 36 q = fx → mI y 37 q = v → (∀ k, k ≠ 32 → k ≠ 33 → k ≠ 36 → k ≠ 37 → mI y k q = mI u k q) → (∀ k i, mG y k i = mG u k i) → P y) : F_X12_meanOne q v r c fx u P := by
  obtain ⟨iv, ⟨r0, r1⟩, c0, c1⟩ := hT
  obtain ⟨⟨s1, s2⟩, ⟨⟨b1, b2⟩, b3, b4⟩, s3, s4⟩ := Sh_p E R iv
  have v40 := E.2.2.1.2
  have iv1 := iv.1
  have iv2 := iv.2
  have key : ∀ s, s = slt v → F_X12_meanOne_10 q v r c fx s u P := by
    rintro s rfl
    have sb : 0 ≤ slt v ∧ slt v < 122 := by unfold slt; split <;> omega
    unfold F_X12_meanOne_10
    rw [w32e (x := r - 1) (by omega) (by omega), w32e (x := c - 1) (by omega) (by omega)]
    refine i_lineAt sb.1 sb.2 (by omega) (by unfold mst; rw [if_pos rfl]; omega) ?_
    rw [show idM u (slt v) 0 (r - 1) = idS (shOf v S) 0 (r - 1) from s3 (r - 1) (by omega) (by omega)]
    refine ⟨q0.1, q0.2, ?_⟩
    rintro _ rfl
    refine i_lineAt sb.1 sb.2 (by omega) (by unfold mst; rw [if_neg (by decide)]; omega) ?_
    rw [show idM (uI u 32 q (idS (shOf v S) 0 (r - 1))) (slt v) 1 (c - 1) = idS (shOf v S) 1 (c - 1) from s4 (c - 1) (by omega) (by omega)]
    refine ⟨q0.1, q0.2, ?_⟩
    rintro _ rfl
    refine ⟨q0.1, q0.2, ?_⟩
    rintro _ rfl
    refine ⟨q0.1, q0.2, ?_⟩
    rintro _ rfl
    refine h _ (OnQ_uI (OnQ_uI (OnQ_uI (OnQ_uI OnQ_rf (by decide) (by decide)) (by decide) (by decide)) (by decide) (by decide)) (by decide) (by decide)) (by simp [mI_uI]) (by simp [mI_uI]) (by simp [mI_uI]) (by simp [mI_uI]) (fun k n1 n2 n3 n4 => ?_) (fun _ _ => rfl)
    rw [mI_uI, if_neg (by omega), mI_uI, if_neg (by omega), mI_uI, if_neg (by omega), mI_uI, if_neg (by omega)]
  unfold F_X12_meanOne
  by_cases c2 : 0 ≤ v
  · rw [if_pos c2]; exact key v (by unfold slt; rw [if_neg (by omega)])
  · rw [if_neg c2]; exact key 40 (by unfold slt; rw [if_pos (by omega)])
theorem i_ver {t : Tx} {S : SS} {u0 u : Mu} {d : Prop} {o nl a k : Int} {ps : List Prt} {lt : Int × Int} {P : Int → Mu → Prop} (E : EnP t S u0) (R : PmR u0 u d o nl a ps lt) (h0 : 0 ≤ k) (h1 : k ≤ t.2.1) (ha : a ≤ t.2.1) (hf : ∀ p v, vrP t k = .inl p → FlM u0 v 1 p t.2.1 → P (-1) v) (hk : ∀ x e v, vrP t k = .inr (x, e) → FrM [(0, some 46)] u v → mI v 0 46 = e → PmR u0 v d o nl a ps lt → P x v) : F_X12_readVersion k u P := by
  have b3 := E.1.2.1
  have rr : ∀ (v : Mu), FrM [(0, some 46)] u v → PmR u0 v d o nl a ps lt := fun v f => PmR_fr R f (by decide) (by decide) (Int.le_refl a) ((mE f (R := [(0, some 57)]) (by decide) (wHas_i (by decide))).trans R.2.1.2.2.2) ⟨(mE f (R := [(0, some 58)]) (by decide) (wHas_i (by decide))).trans R.2.2.2.1.1, fun n => (mE f (R := [(0, some 59)]) (by decide) (wHas_i (by decide))).trans (R.2.2.2.1.2 n)⟩ (fun a b => ⟨a, b⟩)
  unfold F_X12_readVersion
  rintro _ rfl
  have f2 : FrM [(0, some 46)] u (uI u 0 46 k) := FrM_uI FrM_rf (wHas_i (by decide))
  have R2 := rr _ f2
  have e46 : mI (uI u 0 46 k) 0 46 = k := by simp [mI_uI]
  generalize uI u 0 46 k = y at f2 R2 e46
  have C := CxM_p E R2
  refine i_byte C h0 ?_
  have vv : vrP t k = if bt t k = 64 then (if dgB (bt t (k + 1)) = false then .inl (k + 1) else if dgB (bt t (k + 2)) = false then .inr (bt t (k + 1) - 48, k + 2) else if dgB (bt t (k + 3)) = true then .inl (k + 3) else .inr ((bt t (k + 1) - 48) * 10 + bt t (k + 2) - 48, k + 3)) else .inr (-1, k) := rfl
  by_cases c64 : bt t k = 64
  · rw [if_pos c64, w32e (x := k + 1) (by omega) (by omega)]
    rw [if_pos c64] at vv
    refine i_byte C (by omega) (i_dig (fun d1 => ?_) (fun d1 => ?_))
    · rw [if_neg (by decide)]
      rw [if_neg (by rw [d1]; decide)] at vv
      unfold F_X12_readVersion_42
      have b1 := bt_r C (k + 1)
      have b2 := bt_r C (k + 2)
      refine lp_I (S := Int × Int) (fun s => (s.1 = k + 1 ∧ s.2 = 0) ∨ (s.1 = k + 2 ∧ s.2 = bt t (k + 1) - 48) ∨ (s.1 = k + 3 ∧ s.2 = (bt t (k + 1) - 48) * 10 + bt t (k + 2) - 48 ∧ dgB (bt t (k + 2)) = true)) (fun s => (k + 4 - s.1).toNat) ?_ (k + 1, 0) (Or.inl ⟨rfl, rfl⟩)
      rintro G ⟨x2, x3⟩ I ih
      simp only at I
      unfold L_X12_readVersion_42
      dsimp only
      rw [w32e (x := k + 3) (by omega) (by omega)]
      rcases I with ⟨rfl, rfl⟩ | ⟨rfl, rfl⟩ | ⟨rfl, rfl, d2⟩
      · refine i_byte C (by omega) (i_dig (fun _ => ?_) (fun q => by rw [d1] at q; cases q))
        rw [if_neg (by decide), if_neg (by omega)]
        refine i_byte C (by omega) ?_
        have ev : w32 ((w32 (w32 (10 * 0) + bt t (k + 1))) - 48) = bt t (k + 1) - 48 := by simp (disch := omega) only [w32e]; omega
        rw [ev, w32e (x := k + 1 + 1) (by omega) (by omega)]
        exact ih (k + 1 + 1, bt t (k + 1) - 48) (Or.inr (Or.inl ⟨by show k + 1 + 1 = k + 2; omega, rfl⟩)) (by show (k + 4 - (k + 1 + 1)).toNat < (k + 4 - (k + 1)).toNat; omega)
      · refine i_byte C (by omega) (i_dig (fun d2 => ?_) (fun d2 => ?_))
        · rw [if_neg (by decide), if_neg (by omega)]
          refine i_byte C (by omega) ?_
          have ev : w32 ((w32 (w32 (10 * (bt t (k + 1) - 48)) + bt t (k + 2))) - 48) = (bt t (k + 1) - 48) * 10 + bt t (k + 2) - 48 := by simp (disch := omega) only [w32e]; omega
          rw [ev, w32e (x := k + 2 + 1) (by omega) (by omega)]
          exact ih (k + 2 + 1, _) (Or.inr (Or.inr ⟨by show k + 2 + 1 = k + 3; omega, rfl, d2⟩)) (by show (k + 4 - (k + 2 + 1)).toNat < (k + 4 - (k + 2)).toNat; omega)
        · rw [if_pos rfl]
          rw [if_pos d2] at vv
          show ∀ u_90, u_90 = uI y 0 46 (k + 2) → P _ u_90
          rintro _ rfl
          have fz : FrM [(0, some 46)] u (uI y 0 46 (k + 2)) := FrM_uI f2 (wHas_i (by decide))
          exact hk _ _ _ vv fz (by simp [mI_uI]) (rr _ fz)
      · rw [if_neg (by rw [d2]; decide)] at vv
        refine i_byte C (by omega) (i_dig (fun d3 => ?_) (fun d3 => ?_))
        · rw [if_neg (by decide), if_pos rfl]
          rw [if_pos d3] at vv
          exact i_fail R2 (by decide) ha (fun v f => hf _ v vv f)
        · rw [if_pos rfl]
          rw [if_neg (by rw [d3]; decide)] at vv
          show ∀ u_90, u_90 = uI y 0 46 (k + 3) → P _ u_90
          rintro _ rfl
          have fz : FrM [(0, some 46)] u (uI y 0 46 (k + 3)) := FrM_uI f2 (wHas_i (by decide))
          exact hk _ _ _ vv fz (by simp [mI_uI]) (rr _ fz)
    · rw [if_pos rfl]
      rw [if_pos d1] at vv
      exact i_fail R2 (by decide) ha (fun v f => hf _ v vv f)
  · rw [if_neg c64]
    rw [if_neg c64] at vv
    exact hk _ _ _ vv f2 e46 R2
theorem sw2_c {x : Int} (h0 : 0 ≤ x) (h1 : x ≤ 3) : 0 ≤ sw2 x ∧ sw2 x ≤ 3 := by unfold sw2; split <;> (try split) <;> omega
theorem fx_or : ∀ a b : Nat, a ≤ 3 → b ≤ 3 → bOr (a : Int) (bShl (b : Int) 2) = (a : Int) + 4 * (b : Int) := by
  intro a b ha hb
  have h1 : a = 0 ∨ a = 1 ∨ a = 2 ∨ a = 3 := by omega
  have h2 : b = 0 ∨ b = 1 ∨ b = 2 ∨ b = 3 := by omega
  rcases h1 with rfl | rfl | rfl | rfl <;> rcases h2 with rfl | rfl | rfl | rfl <;> decide
theorem fx_or2 {a b : Int} (ha : 0 ≤ a ∧ a ≤ 3) (hb : 0 ≤ b ∧ b ≤ 3) : bOr a (bShl b 2) = a + 4 * b := by
  have := fx_or a.toNat b.toNat (by omega) (by omega)
  rw [Int.toNat_of_nonneg ha.1, Int.toNat_of_nonneg hb.1] at this
  exact this
/-- a place part that is not there -/
theorem i_gone {t : Tx} {S : SS} {u0 u : Mu} {d : Prop} {o a e fr op : Int} {ps : List Prt} {lt : Int × Int} {P : Mu → Prop} (E : EnP t S u0) (R : PmR u0 u d o 0 a ps lt) (h46 : mI u 0 46 = e) (e0 : 0 ≤ e) (e1 : e ≤ t.2.1) (ha : a ≤ e) (h : ∀ v, PmR u0 v d o 0 (skp t e) ps (ltU 3 fr lt) → TkM t v (skp t e) → P v) : F_X12_later 3 fr u (fun x => F_X12_next x P) := by
  refine i_lat (d' := d) R (by decide) (fun v Rv fv => ?_)
  exact i_nx E Rv ((mE fv (R := [(0, some 46)]) (by decide) (wHas_i (by decide))).trans h46) e0 e1 ha h
theorem i_rSpot {t : Tx} {S : SS} {u0 u : Mu} {d : Prop} {o : Int} {st : PS} {P : Mu → Prop} (E : EnP t S u0) (R : PrP t u0 u d o st) (hc : crP t st.1) (h : ∀ v, PoR t u0 d o (pSpot t S st) v → P v) : F_X12_readSpot u P := by
  obtain ⟨R1, ⟨⟨k1, k2, k3⟩, kx⟩, R3, R4⟩ := R
  have b3 := E.1.2.1
  have cb := crP_b hc
  have cf := crF_b t st.1
  rw [tk_3 hc] at k2 kx
  obtain ⟨k49, k52, k53, k54⟩ := kx.2.2.1 rfl
  have ep : peo t st.1 = st.1 := by unfold peo; rw [if_pos (by omega)]
  have B := E.2.1
  unfold F_X12_readSpot F_X12_readSpot_79
  unfold pSpot at h
  rw [k49, k52, k53, k54, k3, ep]
  refine i_ver E R1 (by omega) cb.2.2.1 (by omega) (fun p v hv f => ?_) (fun x e y hv fy e46 Ry => ?_)
  · rw [hv] at h
    rw [if_neg (by have := f.2.1.1; omega)]
    exact h v f
  · rw [hv] at h
    have vb := vrP_b (by omega) cb.2.2.1 hv
    rw [if_pos (by have := Ry.2.1.1; omega)]
    refine i_op (op := 16) (n := 0) B Ry (by omega) (by omega) (fun _ => rfl) ⟨⟨by decide, by decide⟩, by decide⟩ (by decide) (by rw [spE_snoc]; show 1 + undS _ 0 _ ≤ _; rw [und0]; omega) (fun _ _ => Or.inl (by unfold isRC; omega)) (fun z Rz A N => ?_)
    have z46 : mI z 0 46 = e := by rw [A.1 0 46 (by omega) (by omega) (by omega)]; exact e46
    refine i_there E Rz vb.1.1 (fun th => ?_) (fun th => ?_)
    · rw [if_neg (by decide)]
      have hq := B.1
      refine i_mean E Rz th ⟨by omega, by omega⟩ (fun x' oq g32 g33 g36 g37 gk gG => ?_)
      have eR : plcA S 16 x (crR t st.1) (crC t st.1) (crR t st.1) (crC t st.1) (5 * crF t st.1) st.1 (skp t e) st = (skp t e, st.2.1 ++ [plcP S 16 x (crR t st.1) (crC t st.1) (crR t st.1) (crC t st.1) (5 * crF t st.1)], st.2.2) := by unfold plcA; rw [if_pos ⟨th, th⟩]
      have Rx : PmR u0 x' d o 0 st.1 (st.2.1 ++ [plcP S 16 x (crR t st.1) (crC t st.1) (crR t st.1) (crC t st.1) (5 * crF t st.1)]) st.2.2 := by
        obtain ⟨n1, n2, n3, n4, n5, n6, ⟨n7, n8, n9, n10⟩, n11, n12⟩ := N
        refine PmR_add B Ry (AdQ_tr A oq) ?_ ?_ (fun _ _ => ?_) (fun _ _ => Or.inl (by unfold isRC; show (0 : Int) = 29 ∨ (0 : Int) = 30 ↔ (16 : Int) = 29 ∨ (16 : Int) = 30; omega)) (by rw [oq.1 0 19 (by omega)]; exact Rz.2.2.1)
        · refine ⟨⟨⟨by show (1 : Int) ≤ 16; decide, by show (16 : Int) ≤ 35; decide⟩, fun w' => absurd w' (by show ¬ (16 : Int) = 14; decide)⟩, (gk 26 (by decide) (by decide) (by decide) (by decide)).trans n1, (gk 27 (by decide) (by decide) (by decide) (by decide)).trans n2, ⟨(gG _ _).trans n4, (gk 30 (by decide) (by decide) (by decide) (by decide)).trans n5, (gk 31 (by decide) (by decide) (by decide) (by decide)).trans n6⟩, ?_, ?_, (gk 34 (by decide) (by decide) (by decide) (by decide)).trans n9, (gk 35 (by decide) (by decide) (by decide) (by decide)).trans n10, g37⟩
          · rw [g32]; show _ = idS _ 0 _ + 1 - 1; omega
          · rw [g33]; show _ = idS _ 1 _ + 1 - 1; omega
        · rw [gk 28 (by decide) (by decide) (by decide) (by decide), n3, spE_snoc, spE_snoc]; rfl
        · rw [g36]
          unfold fM
          show sw2 (crF t st.1) = sw2 (5 * crF t st.1 % 4) + 0
          rw [show 5 * crF t st.1 % 4 = crF t st.1 by omega]; omega
      refine i_nx E Rx (e := e) (by rw [oq.1 0 46 (by omega)]; exact z46) (by omega) vb.2.2.1 (by omega) (fun x2 R2 k2' => h x2 ?_)
      show PoR t u0 d o (.inr (plcA _ _ _ _ _ _ _ _ _ _ _)) x2
      rw [eR]
      exact ⟨R2, k2'⟩
    · rw [if_pos rfl]
      have eR : plcA S 16 x (crR t st.1) (crC t st.1) (crR t st.1) (crC t st.1) (5 * crF t st.1) st.1 (skp t e) st = (skp t e, st.2.1 ++ [leafP 16], ltU 3 st.1 st.2.2) := by unfold plcA; rw [if_neg (fun w' => th w'.1)]
      refine i_gone (op := 16) E Rz z46 (by omega) vb.2.2.1 (by omega) (fun x2 R2 k2' => h x2 ?_)
      show PoR t u0 d o (.inr (plcA _ _ _ _ _ _ _ _ _ _ _)) x2
      rw [eR]
      exact ⟨R2, k2'⟩
theorem i_rArea {t : Tx} {S : SS} {u0 u : Mu} {d : Prop} {o : Int} {st : PS} {P : Mu → Prop} (E : EnP t S u0) (R : PrP t u0 u d o st) (hc : crP t st.1) (h58 : bt t (crE t st.1) = 58) (h : ∀ v, PoR t u0 d o (pArea t S st) v → P v) : F_X12_readArea u P := by
  obtain ⟨R1, ⟨⟨k1, k2, k3⟩, kx⟩, R3, R4⟩ := R
  have b3 := E.1.2.1
  have cb := crP_b hc
  have cf := crF_b t st.1
  have cf2 := crF_b t (crE t st.1 + 1)
  rw [tk_3 hc] at k2 kx
  obtain ⟨k49, k52, k53, k54⟩ := kx.2.2.1 rfl
  have ep : peo t st.1 = st.1 := by unfold peo; rw [if_pos (by omega)]
  have B := E.2.1
  have b58 := (bt_in (t := t) (k := crE t st.1) (by omega)).2
  unfold F_X12_readArea F_X12_readArea_185 F_X12_readArea_191 F_X12_readArea_144
  unfold pArea at h
  rw [k49, k52, k53, k54, k3, ep, w32e (x := crE t st.1 + 1) (by omega) (by omega)]
  refine i_crn (CxM_p E R1) (by omega) (by omega) (fun cr => ?_) (fun cr => ?_)
  · rw [if_neg (by decide)]
    rw [if_pos cr] at h
    have cb2 := crP_b cr
    have fm : FrM wTk u (crM t u (crE t st.1 + 1)) := by unfold crM; exact FrM_uI (FrM_uI (FrM_uI (FrM_uI FrM_rf (wHas_i (by decide))) (wHas_i (by decide))) (wHas_i (by decide))) (wHas_i (by decide))
    have Rm := PmR_tk R1 fm (Int.le_refl _)
    have m52 : mI (crM t u (crE t st.1 + 1)) 0 52 = crR t (crE t st.1 + 1) := by simp [mI_uI, crM]
    have m53 : mI (crM t u (crE t st.1 + 1)) 0 53 = crC t (crE t st.1 + 1) := by simp [mI_uI, crM]
    have m54 : mI (crM t u (crE t st.1 + 1)) 0 54 = sw2 (crF t (crE t st.1 + 1)) := by simp [mI_uI, crM]
    have m55 : mI (crM t u (crE t st.1 + 1)) 0 55 = crE t (crE t st.1 + 1) := by simp [mI_uI, crM]
    generalize crM t u (crE t st.1 + 1) = m at fm Rm m52 m53 m54 m55
    rw [m52, m53, m54, m55]
    have cr2b := crR_b cr
    refine i_ver E Rm (by omega) cb2.2.2.1 (by omega) (fun p v hv f => ?_) (fun x e y hv fy e46 Ry => ?_)
    · rw [hv] at h
      rw [if_neg (by have := f.2.1.1; omega)]
      exact h v f
    · rw [hv] at h
      have vb := vrP_b (by omega) cb2.2.2.1 hv
      rw [if_pos (by have := Ry.2.1.1; omega)]
      refine i_op (op := 17) (n := 0) B Ry (by omega) (by omega) (fun _ => rfl) ⟨⟨by decide, by decide⟩, by decide⟩ (by decide) (by rw [spE_snoc]; show 1 + undS _ 0 _ ≤ _; rw [und0]; omega) (fun _ _ => Or.inl (by unfold isRC; omega)) (fun z Rz A N => ?_)
      have z46 : mI z 0 46 = e := by rw [A.1 0 46 (by omega) (by omega) (by omega)]; exact e46
      have gone : ¬ (thP S x (crR t st.1) (crC t st.1) ∧ thP S x (crR t (crE t st.1 + 1)) (crC t (crE t st.1 + 1))) → F_X12_later 3 st.1 z (fun x => F_X12_next x P) := fun th => by
        have eR : plcA S 17 x (crR t st.1) (crC t st.1) (crR t (crE t st.1 + 1)) (crC t (crE t st.1 + 1)) (crF t st.1 + 4 * crF t (crE t st.1 + 1)) st.1 (skp t e) st = (skp t e, st.2.1 ++ [leafP 17], ltU 3 st.1 st.2.2) := by unfold plcA; rw [if_neg th]
        refine i_gone (op := 17) E Rz z46 (by omega) vb.2.2.1 (by omega) (fun x2 R2 k2' => h x2 ?_)
        show PoR t u0 d o (.inr (plcA _ _ _ _ _ _ _ _ _ _ _)) x2
        rw [eR]
        exact ⟨R2, k2'⟩
      refine i_there E Rz vb.1.1 (fun th => ?_) (fun th => ?_)
      · rw [if_neg (by decide)]
        refine i_there E Rz vb.1.1 (fun th2 => ?_) (fun th2 => ?_)
        · rw [if_neg (by decide)]
          have hq := B.1
          refine i_mean E Rz th ⟨by omega, by omega⟩ (fun x' oq g32 g33 g36 g37 gk gG => ?_)
          obtain ⟨iv, ⟨r0, r1⟩, c0, c1⟩ := id th2
          obtain ⟨⟨s1, s2⟩, ⟨⟨sb1, sb2⟩, sb3, sb4⟩, s3, s4⟩ := Sh_p E Rz iv
          have v40 := E.2.2.1.2
          have iv1 := iv.1
          have iv2 := iv.2
          have eR : plcA S 17 x (crR t st.1) (crC t st.1) (crR t (crE t st.1 + 1)) (crC t (crE t st.1 + 1)) (crF t st.1 + 4 * crF t (crE t st.1 + 1)) st.1 (skp t e) st = (skp t e, st.2.1 ++ [plcP S 17 x (crR t st.1) (crC t st.1) (crR t (crE t st.1 + 1)) (crC t (crE t st.1 + 1)) (crF t st.1 + 4 * crF t (crE t st.1 + 1))], st.2.2) := by unfold plcA; rw [if_pos ⟨th, th2⟩]
          have key : ∀ s, s = slt x → F_X12_lineAt s 0 (w32 (crR t (crE t st.1 + 1) - 1)) x' (fun x_160 => (0 ≤ mI u0 0 25 + (st.2.1.length : Int) ∧ mI u0 0 25 + (st.2.1.length : Int) < 60420 ∧ (∀ u_163, u_163 = uI x' 34 (mI u0 0 25 + (st.2.1.length : Int)) x_160 → F_X12_lineAt s 1 (w32 (crC t (crE t st.1 + 1) - 1)) u_163 (fun x_178 => (0 ≤ mI u0 0 25 + (st.2.1.length : Int) ∧ mI u0 0 25 + (st.2.1.length : Int) < 60420 ∧ (∀ u_181, u_181 = uI u_163 35 (mI u0 0 25 + (st.2.1.length : Int)) x_178 → F_X12_next u_181 (fun u_192 => P u_192))))))) := by
            rintro s rfl
            have sb : 0 ≤ slt x ∧ slt x < 122 := by unfold slt; split <;> omega
            rw [w32e (x := crR t (crE t st.1 + 1) - 1) (by omega) (by omega), w32e (x := crC t (crE t st.1 + 1) - 1) (by omega) (by omega)]
            refine i_lineAt sb.1 sb.2 (by omega) (by unfold mst; rw [if_pos rfl]; omega) ?_
            have i3 : idM x' (slt x) 0 (crR t (crE t st.1 + 1) - 1) = idS (shOf x S) 0 (crR t (crE t st.1 + 1) - 1) := (oq.1 3 _ (by omega)).trans (s3 _ (by omega) (by omega))
            rw [i3]
            refine ⟨by omega, by omega, ?_⟩
            rintro _ rfl
            refine i_lineAt sb.1 sb.2 (by omega) (by unfold mst; rw [if_neg (by decide)]; omega) ?_
            have i4 : idM (uI x' 34 (mI u0 0 25 + (st.2.1.length : Int)) (idS (shOf x S) 0 (crR t (crE t st.1 + 1) - 1))) (slt x) 1 (crC t (crE t st.1 + 1) - 1) = idS (shOf x S) 1 (crC t (crE t st.1 + 1) - 1) := (oq.1 4 _ (by omega)).trans (s4 _ (by omega) (by omega))
            rw [i4]
            refine ⟨by omega, by omega, ?_⟩
            rintro _ rfl
            have oz := OnQ_uI (x := idS (shOf x S) 1 (crC t (crE t st.1 + 1) - 1)) (OnQ_uI (x := idS (shOf x S) 0 (crR t (crE t st.1 + 1) - 1)) oq (k := 34) (by decide) (by decide)) (k := 35) (by decide) (by decide)
            have ek : ∀ k, k ≠ 34 → k ≠ 35 → mI (uI (uI x' 34 (mI u0 0 25 + (st.2.1.length : Int)) (idS (shOf x S) 0 (crR t (crE t st.1 + 1) - 1))) 35 (mI u0 0 25 + (st.2.1.length : Int)) (idS (shOf x S) 1 (crC t (crE t st.1 + 1) - 1))) k (mI u0 0 25 + (st.2.1.length : Int)) = mI x' k (mI u0 0 25 + (st.2.1.length : Int)) := fun k n1 n2 => by rw [mI_uI, if_neg (by omega), mI_uI, if_neg (by omega)]
            have e34 : mI (uI (uI x' 34 (mI u0 0 25 + (st.2.1.length : Int)) (idS (shOf x S) 0 (crR t (crE t st.1 + 1) - 1))) 35 (mI u0 0 25 + (st.2.1.length : Int)) (idS (shOf x S) 1 (crC t (crE t st.1 + 1) - 1))) 34 (mI u0 0 25 + (st.2.1.length : Int)) = idS (shOf x S) 0 (crR t (crE t st.1 + 1) - 1) := by simp [mI_uI]
            have e35 : mI (uI (uI x' 34 (mI u0 0 25 + (st.2.1.length : Int)) (idS (shOf x S) 0 (crR t (crE t st.1 + 1) - 1))) 35 (mI u0 0 25 + (st.2.1.length : Int)) (idS (shOf x S) 1 (crC t (crE t st.1 + 1) - 1))) 35 (mI u0 0 25 + (st.2.1.length : Int)) = idS (shOf x S) 1 (crC t (crE t st.1 + 1) - 1) := by simp [mI_uI]
            have gG2 : ∀ k i, mG (uI (uI x' 34 (mI u0 0 25 + (st.2.1.length : Int)) (idS (shOf x S) 0 (crR t (crE t st.1 + 1) - 1))) 35 (mI u0 0 25 + (st.2.1.length : Int)) (idS (shOf x S) 1 (crC t (crE t st.1 + 1) - 1))) k i = mG x' k i := fun _ _ => rfl
            generalize uI (uI x' 34 (mI u0 0 25 + (st.2.1.length : Int)) (idS (shOf x S) 0 (crR t (crE t st.1 + 1) - 1))) 35 (mI u0 0 25 + (st.2.1.length : Int)) (idS (shOf x S) 1 (crC t (crE t st.1 + 1) - 1)) = y2 at oz ek e34 e35 gG2
            have Rx : PmR u0 y2 d o 0 st.1 (st.2.1 ++ [plcP S 17 x (crR t st.1) (crC t st.1) (crR t (crE t st.1 + 1)) (crC t (crE t st.1 + 1)) (crF t st.1 + 4 * crF t (crE t st.1 + 1))]) st.2.2 := by
              obtain ⟨n1, n2, n3, n4, n5, n6, ⟨n7, n8, n9, n10⟩, n11, n12⟩ := N
              refine PmR_add B Ry (AdQ_tr A oz) ?_ ?_ (fun _ _ => ?_) (fun _ _ => Or.inl (by unfold isRC; show (0 : Int) = 29 ∨ (0 : Int) = 30 ↔ (17 : Int) = 29 ∨ (17 : Int) = 30; omega)) (by rw [oz.1 0 19 (by omega)]; exact Rz.2.2.1)
              · refine ⟨⟨⟨by show (1 : Int) ≤ 17; decide, by show (17 : Int) ≤ 35; decide⟩, fun w' => absurd w' (by show ¬ (17 : Int) = 14; decide)⟩, (ek 26 (by decide) (by decide)).trans ((gk 26 (by decide) (by decide) (by decide) (by decide)).trans n1), (ek 27 (by decide) (by decide)).trans ((gk 27 (by decide) (by decide) (by decide) (by decide)).trans n2), ⟨(gG2 _ _).trans ((gG _ _).trans n4), (ek 30 (by decide) (by decide)).trans ((gk 30 (by decide) (by decide) (by decide) (by decide)).trans n5), (ek 31 (by decide) (by decide)).trans ((gk 31 (by decide) (by decide) (by decide) (by decide)).trans n6)⟩, ?_, ?_, ?_, ?_, (ek 37 (by decide) (by decide)).trans g37⟩
                · rw [ek 32 (by decide) (by decide), g32]; show _ = idS _ 0 _ + 1 - 1; omega
                · rw [ek 33 (by decide) (by decide), g33]; show _ = idS _ 1 _ + 1 - 1; omega
                · rw [e34]; show _ = (if (17 : Int) = 16 then -1 else idS _ 0 _ + 1 - 1); rw [if_neg (by decide)]; omega
                · rw [e35]; show _ = (if (17 : Int) = 16 then -1 else idS _ 1 _ + 1 - 1); rw [if_neg (by decide)]; omega
              · rw [ek 28 (by decide) (by decide), gk 28 (by decide) (by decide) (by decide) (by decide), n3, spE_snoc, spE_snoc]; rfl
              · rw [ek 36 (by decide) (by decide), g36]
                have sw1 := sw2_c (x := crF t st.1) cf.1 cf.2
                have sw3 := sw2_c (x := crF t (crE t st.1 + 1)) cf2.1 cf2.2
                rw [fx_or2 sw1 sw3]
                unfold fM
                show _ = sw2 ((crF t st.1 + 4 * crF t (crE t st.1 + 1)) % 4) + 4 * sw2 ((crF t st.1 + 4 * crF t (crE t st.1 + 1)) / 4)
                rw [show (crF t st.1 + 4 * crF t (crE t st.1 + 1)) % 4 = crF t st.1 by omega, show (crF t st.1 + 4 * crF t (crE t st.1 + 1)) / 4 = crF t (crE t st.1 + 1) by omega]
            refine i_nx E Rx (e := e) (by rw [oz.1 0 46 (by omega)]; exact z46) (by omega) vb.2.2.1 (by omega) (fun x2 R2 k2' => h x2 ?_)
            show PoR t u0 d o (.inr (plcA _ _ _ _ _ _ _ _ _ _ _)) x2
            rw [eR]
            exact ⟨R2, k2'⟩
          by_cases c2 : 0 ≤ x
          · rw [if_pos c2]; exact key x (by unfold slt; rw [if_neg (by omega)])
          · rw [if_neg c2]; exact key 40 (by unfold slt; rw [if_pos (by omega)])
        · rw [if_pos rfl]
          exact gone (fun w' => th2 w'.2)
      · rw [if_pos rfl]
        exact gone (fun w' => th w'.1)
  · rw [if_pos rfl]
    rw [if_neg cr] at h
    exact i_fail R1 (by decide) (by omega) (fun v f => h v f)
