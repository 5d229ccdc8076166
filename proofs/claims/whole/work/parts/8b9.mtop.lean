/-! ===== the reference reads words; the whole of it ===== -/
theorem nm_inj : ∀ i : Nat, i < 18 → ∀ j : Nat, j < 18 → nmW (18 + (i : Int)) = nmW (18 + (j : Int)) → i = j := by decide +kernel
theorem nmO_f {ws : List Int} {k : Nat} (hk : k < 18) (h : nmW (18 + (k : Int)) = ws) : nmO ws = 18 + (k : Int) := by
  unfold nmO
  cases hf : (List.range 18).find? (fun (j : Nat) => decide (nmW (18 + (j : Int)) = ws)) with
  | none =>
    have := List.find?_eq_none.mp hf k (List.mem_range.mpr hk)
    simp only [decide_eq_true_eq] at this
    exact absurd h this
  | some j =>
    have m := List.mem_of_find?_eq_some hf
    have q := List.find?_some hf
    rw [List.mem_range] at m
    simp only [decide_eq_true_eq] at q
    have := nm_inj j m k hk (q.trans h.symm)
    rw [this]
theorem nmO_0 {ws : List Int} (h : ∀ k : Nat, k < 18 → nmW (18 + (k : Int)) ≠ ws) : nmO ws = 0 := by
  apply Classical.byContradiction
  intro n
  obtain ⟨⟨b1, b2⟩, e⟩ := nmO_b n
  refine h (nmO ws - 18).toNat (by omega) ?_
  rw [Int.toNat_of_nonneg (by omega), show 18 + (nmO ws - 18) = nmO ws by omega]; exact e
theorem nm_str {x : Int} {P : Nat → Prop} (h0 : 30 ≤ x) (h1 : x ≤ 47) (h : P (x - 17).toNat) : F_X12_nameOf x P := by
  have : x = 30 ∨ x = 31 ∨ x = 32 ∨ x = 33 ∨ x = 34 ∨ x = 35 ∨ x = 36 ∨ x = 37 ∨ x = 38 ∨ x = 39 ∨ x = 40 ∨ x = 41 ∨ x = 42 ∨ x = 43 ∨ x = 44 ∨ x = 45 ∨ x = 46 ∨ x = 47 := by omega
  rcases this with rfl | rfl | rfl | rfl | rfl | rfl | rfl | rfl | rfl | rfl | rfl | rfl | rfl | rfl | rfl | rfl | rfl | rfl <;> exact h
/-- a call, from its name on -/
theorem i_call {t : Tx} {S : SS} {u0 u : Mu} {n N : Nat} {d : Prop} {o op : Int} {st : PS} {P : Mu → Prop} (E : EnP t S u0) (HA : RowA t S u0 n) (R : PrP t u0 u d o st) (ho : 0 ≤ o ∧ o ≤ 20) (hN : 10 * (20 - o) + 1 ≤ (N : Int)) (hop : 18 ≤ op ∧ op ≤ 35) (hle : leB (bt t st.1) = true) (hnc : ¬ crP t st.1) (gd : gdP (if bt t (skp t (rn leB t st.1)) ≠ 40 then .inl (1, peo t (skp t (rn leB t st.1))) else if 20 ≤ o then .inl (2, skp t (rn leB t st.1)) else (pg t S n).2.2.2 op st.1 (o + 1) [] (skp t (skp t (rn leB t st.1) + 1), st.2))) (h : ∀ v, PoR t u0 d o (if bt t (skp t (rn leB t st.1)) ≠ 40 then .inl (1, peo t (skp t (rn leB t st.1))) else if 20 ≤ o then .inl (2, skp t (rn leB t st.1)) else (pg t S n).2.2.2 op st.1 (o + 1) [] (skp t (skp t (rn leB t st.1) + 1), st.2)) v → P v) : F_X12_readCall N (op + 12) u P := by
  have b3 := E.1.2.1
  have h0 := R.2.2.1.1.1
  have bi := bt_in (t := t) (k := st.1) (fun e => by rw [e] at hle; cases hle)
  have rb0 := rn_b (p := leB) (t := t) leB_n h0
  have r1 := rn_1 (t := t) leB_n h0 hle
  have rb1 := rn_b (p := leB) (t := t) (k := st.1 + 1) leB_n (by omega)
  have k49 : mI u 0 49 = rn leB t st.1 := by
    have kx := R.2.1.2
    rw [tk_4 hle hnc] at kx
    exact kx.2.2.2.1 rfl
  have k48 : mI u 0 48 = st.1 := by rw [R.2.1.1.2.2]; unfold peo; rw [if_pos bi.2]
  obtain ⟨M, rfl⟩ : ∃ M, N = M + 1 := ⟨N - 1, by omega⟩
  show B_X12_readCall _ _ _ _ _ _ _ _ (op + 12) u P
  unfold B_X12_readCall
  rw [k48]
  refine i_skp E R k49 (by omega) (by omega) (fun v Rv => ?_)
  have kb := skp_b (t := t) (k := rn leB t st.1) (by omega) (by omega)
  generalize hK : skp t (rn leB t st.1) = K at *
  rw [Rv.2.1.1.2.1]
  show (if tkK t K = 6 then _ else _)
  by_cases c40 : bt t K = 40
  · rw [if_pos (tk_6 c40)]
    rw [if_neg (not_not_intro c40)] at h gd
    have bK := bt_in (t := t) (k := K) (by omega)
    unfold F_X12_opens
    rw [Rv.1.2.1.2.2.2]
    have pK : mI v 0 48 = K := by rw [Rv.2.1.1.2.2]; show peo t K = K; unfold peo; rw [if_pos bK.2]
    by_cases c20 : o = 20
    · rw [if_pos c20, pK]
      rw [if_pos (by omega)] at h
      refine i_fail (en := t.2.1) Rv.1 (by decide) (by show K ≤ _; omega) (fun x fx => ?_)
      dsimp only
      rw [if_pos rfl]
      exact h x fx
    · rw [if_neg c20, w32e (by omega) (by omega)]
      rw [if_neg (by omega)] at h gd
      rintro _ rfl
      rw [if_neg (by decide)]
      have f : FrM [(0, some 57)] v (uI v 0 57 (o + 1)) := FrM_uI FrM_rf (wHas_i (by decide))
      have R2 : PmR u0 (uI v 0 57 (o + 1)) (d ∨ (isRC op ∧ ([] : List Int) ≠ [])) (o + 1) 0 K st.2.1 st.2.2 := PmR_fr Rv.1 f (by decide) (by decide) (Int.le_refl _) (by simp [mI_uI]) ⟨(mE f (R := [(0, some 58)]) (by decide) (wHas_i (by decide))).trans Rv.1.2.2.2.1.1, fun n => (mE f (R := [(0, some 59)]) (by decide) (wHas_i (by decide))).trans (Rv.1.2.2.2.1.2 n)⟩ (fun a b => ⟨fun z => a (Or.inl z), b⟩)
      have T2 : TkM t (uI v 0 57 (o + 1)) K := TkM_f f (by decide) Rv.2.1
      have kb2 := skp_b (t := t) (k := K + 1) (by omega) (by omega)
      have len := R.2.2.2
      unfold F_X12_readCall_44
      refine ⟨(t.2.1 - skp t (K + 1)).toNat + 3, ?_⟩
      refine HA op st.1 d (o + 1) [] (skp t (K + 1), st.2) st.2.1 M hop ⟨by omega, by omega⟩ (by omega) ⟨[], by rw [List.append_nil]⟩ (ArI_0 R.2.2.1.2) ⟨by show 0 ≤ skp t _; omega, kb2.2.1⟩ (by show (st.2.1.length : Int) ≤ skp t _; omega) (by show ((0 : Nat) : Int) ≤ skp t (K + 1); omega) gd _ P K 1 R2 T2 (Or.inl c40) rfl (Or.inl ⟨rfl, fun k hk => by cases hk⟩) (fun x hx => h x ?_) _ (Nat.le_refl _)
      rw [show o + 1 - 1 = o by omega] at hx
      exact hx
  · rw [if_neg (fun e => c40 (tk_i.2.2.2.2.2.2.1 e))]
    rw [if_pos c40] at h
    rw [Rv.2.1.1.2.2]
    exact i_fail Rv.1 (by decide) (by show K ≤ _; omega) (fun x fx => h x fx)
theorem i_word {t : Tx} {S : SS} {u0 u : Mu} {n N : Nat} {d : Prop} {o : Int} {st : PS} {P : Mu → Prop} (E : EnP t S u0) (HA : RowA t S u0 n) (R : PrP t u0 u d o st) (ho : 0 ≤ o ∧ o ≤ 20) (hN : 10 * (20 - o) + 2 ≤ (N : Int)) (hle : leB (bt t st.1) = true) (hnc : ¬ crP t st.1) (gd : gdP (bWd t (pg t S n) o st)) (h : ∀ v, PoR t u0 d o (bWd t (pg t S n) o st) v → P v) : F_X12_readWord N u P := by
  have b3 := E.1.2.1
  have B := E.2.1
  have hM := B.1
  have h0 := R.2.2.1.1.1
  have bi := bt_in (t := t) (k := st.1) (fun e => by rw [e] at hle; cases hle)
  have rb0 := rn_b (p := leB) (t := t) leB_n h0
  have r1 := rn_1 (t := t) leB_n h0 hle
  have rb1 := rn_b (p := leB) (t := t) (k := st.1 + 1) leB_n (by omega)
  have k49 : mI u 0 49 = rn leB t st.1 := by
    have kx := R.2.1.2
    rw [tk_4 hle hnc] at kx
    exact kx.2.2.2.1 rfl
  have k48 : mI u 0 48 = st.1 := by rw [R.2.1.1.2.2]; unfold peo; rw [if_pos bi.2]
  have C := CxM_p E R.1
  have len := R.2.2.2
  obtain ⟨M, rfl⟩ : ∃ M, N = M + 1 := ⟨N - 1, by omega⟩
  show B_X12_readWord _ _ _ _ _ _ _ _ u P
  unfold B_X12_readWord
  rw [k48, k49, w32e (x := rn leB t st.1 - st.1) (by omega) (by omega)]
  unfold bWd at gd h
  have tr : ∀ x2 : Int, ∀ b : Int, (b = if x2 = 0 then 0 else 1) → (∀ v, PoR t u0 d o (.inr (addP (litP (3, b, [])) (skp t (rn leB t st.1)) st)) v → P v) → F_X12_readWord_42 (F_X12_readAtom M) (F_X12_readCall M) (F_X12_readChain M) (F_X12_readProduct M) (F_X12_readSign M) (F_X12_readSum M) (F_X12_readTest M) (F_X12_readWord M) x2 u P := by
    intro x2 b hb hh
    unfold F_X12_readWord_42 F_X12_readWord_63
    refine i_prt (n := 0) B R.1 (by omega) (by omega) (fun _ => rfl) (by rw [und0]; omega) (fun v A n19 e19 => ?_)
    rw [und0] at n19
    have key : (0 ≤ mI u0 0 25 + (st.2.1.length : Int) ∧ mI u0 0 25 + (st.2.1.length : Int) < 60420 ∧ (∀ u_63, u_63 = uG v 29 (mI u0 0 25 + (st.2.1.length : Int)) b → F_X12_next u_63 (fun u_65 => P u_65))) := by
      refine ⟨by omega, by omega, ?_⟩
      rintro _ rfl
      obtain ⟨a1, a2, a3, a4, a5, a6, ⟨a7, a8, a9, a10⟩, a11, a12⟩ := n19
      have Q : OnQ v (uG v 29 (mI u0 0 25 + (st.2.1.length : Int)) b) (mI u0 0 25 + (st.2.1.length : Int)) := ⟨fun _ _ _ => rfl, fun k i n => by rw [mG_uG, if_neg (by omega)]⟩
      have A2 := AdQ_tr A Q
      have g29 : mG (uG v 29 (mI u0 0 25 + (st.2.1.length : Int)) b) 29 (mI u0 0 25 + (st.2.1.length : Int)) = b := by rw [mG_uG, if_pos ⟨rfl, rfl⟩]
      have eI : ∀ k i, mI (uG v 29 (mI u0 0 25 + (st.2.1.length : Int)) b) k i = mI v k i := fun _ _ => rfl
      generalize uG v 29 (mI u0 0 25 + (st.2.1.length : Int)) b = y at Q A2 g29 eI
      have pr : PrR y (mI u0 0 25 + (st.2.1.length : Int)) (litP (3, b, [])) := by
        refine ⟨⟨⟨by show (1 : Int) ≤ 14; decide, by show (14 : Int) ≤ 35; decide⟩, fun _ => ⟨_, rfl, by show (1 : Int) ≤ 3; decide, by show (3 : Int) ≤ 3; decide⟩⟩, (eI _ _).trans a1, (eI _ _).trans a2, ⟨g29, (eI _ _).trans a6, ?_⟩, (eI _ _).trans a7, (eI _ _).trans a8, (eI _ _).trans a9, (eI _ _).trans a10, (eI _ _).trans a12⟩
        rw [eI, a5]
        refine ⟨Int.le_refl 0, ?_, fun i hi => by cases hi⟩
        show (0 : Int) + 0 ≤ _
        rw [eI, e19]
        have := R.1.1.2.1
        omega
      have R2 := PmR_add (nl' := 0) (a2 := rn leB t st.1) B R.1 A2 pr (by rw [eI, a3, spE_snoc]; show (1 : Int) = 1 + undS _ 0 _; rw [und0]) (fun _ _ => (eI _ _).trans a11) (fun _ _ => Or.inl (by unfold isRC; show (0 : Int) = 29 ∨ (0 : Int) = 30 ↔ (14 : Int) = 29 ∨ (14 : Int) = 30; omega)) (by rw [eI, e19]; have := R.1.2.2.1; omega)
      refine i_nx E R2 (e := rn leB t st.1) ?_ (by omega) (by omega) (Int.le_refl _) (fun x Rx kx' => hh x ⟨Rx, kx'⟩)
      rw [eI, A.1 0 46 (by omega) (by omega) (by omega), R.2.1.1.1, k49]
    by_cases c : x2 = 0
    · rw [if_pos c] at hb ⊢
      subst hb
      exact key
    · rw [if_neg c] at hb ⊢
      subst hb
      exact key
  refine i_wd C h0 (by omega) (by omega) (by omega) (by decide) (fun q => ?_) (fun q => ?_)
  · rw [if_neg (by decide)]
    rw [sL_ref.2.1] at q
    rw [if_pos q] at h
    exact tr 1 1 (by decide) h
  · rw [if_pos rfl]
    rw [sL_ref.2.1] at q
    rw [if_neg q] at h gd
    refine i_wd C h0 (by omega) (by omega) (by omega) (by decide) (fun q2 => ?_) (fun q2 => ?_)
    · rw [if_neg (by decide)]
      rw [sL_ref.2.2] at q2
      rw [if_pos q2] at h
      exact tr 0 0 (by decide) h
    · rw [if_pos rfl]
      rw [sL_ref.2.2] at q2
      rw [if_neg q2] at h gd
      unfold F_X12_readWord_72
      generalize hws : subL t st.1 (rn leB t st.1 - st.1).toNat = ws at *
      refine lp_I (fun x => (30 ≤ x ∧ x ≤ 48) ∧ ∀ k : Nat, (k : Int) < x - 30 → nmW (18 + (k : Int)) ≠ ws) (fun x => (48 - x).toNat) ?_ 30 ⟨⟨by decide, by decide⟩, fun k hk => by omega⟩
      rintro Gk x ⟨⟨x0, x1⟩, hf⟩ ih
      unfold L_X12_readWord_72
      by_cases c47 : 47 < x
      · rw [if_pos c47]
        have z := nmO_0 (ws := ws) (fun k hk => hf k (by omega))
        rw [if_pos z] at h
        show F_X12_fail 1 (mI u 0 48) u (fun u_112 => P u_112)
        rw [k48]
        exact i_fail R.1 (by decide) (by omega) (fun v f => h v f)
      · rw [if_neg c47]
        refine nm_str (by omega) (by omega) ?_
        have nm := (nm_M (x - 12).toNat (by omega) (by omega)).1
        rw [show (x - 12).toNat - 5 = (x - 17).toNat by omega, Int.toNat_of_nonneg (by omega)] at nm
        rw [k48]
        refine i_wd C h0 (by omega) (by omega) (by omega) (by omega) (fun q3 => ?_) (fun q3 => ?_)
        · rw [if_neg (by decide)]
          rw [hws, nm] at q3
          have eo := nmO_f (ws := ws) (k := (x - 30).toNat) (by omega) (by rw [Int.toNat_of_nonneg (by omega), show 18 + (x - 30) = x - 12 by omega]; exact q3.symm)
          rw [Int.toNat_of_nonneg (by omega), show 18 + (x - 30) = x - 12 by omega] at eo
          rw [eo, if_neg (by omega)] at h gd
          show F_X12_readCall M x u (fun u_96 => P u_96)
          have := i_call (op := x - 12) (N := M) (P := P) E HA R ho (by omega) (by omega) hle hnc gd h
          rw [show x - 12 + 12 = x by omega] at this
          exact this
        · rw [if_pos rfl, w32e (by omega) (by omega)]
          rw [hws, nm] at q3
          refine ih (x + 1) ⟨⟨by omega, by omega⟩, fun k hk => ?_⟩ (by omega)
          by_cases ek : (k : Int) = x - 30
          · rw [ek, show 18 + (x - 30) = x - 12 by omega]; exact fun e => q3 e.symm
          · exact hf k (by omega)
theorem i_atom {t : Tx} {S : SS} {u0 u : Mu} {n N : Nat} {d : Prop} {o : Int} {st : PS} {P : Mu → Prop} (E : EnP t S u0) (G : PgO t S (pg t S n)) (HE : RowE t S u0 n) (HA : RowA t S u0 n) (R : PrP t u0 u d o st) (ho : 0 ≤ o ∧ o ≤ 20) (hN : 10 * (20 - o) + 3 ≤ (N : Int)) (gd : gdP (bAt t S (pg t S n) o st)) (h : ∀ v, PoR t u0 d o (bAt t S (pg t S n) o st) v → P v) : F_X12_readAtom N u P := by
  have b3 := E.1.2.1
  have B := E.2.1
  have h0 := R.2.2.1.1.1
  have h1 := R.2.2.1.1.2
  have len := R.2.2.2
  obtain ⟨M, rfl⟩ : ∃ M, N = M + 1 := ⟨N - 1, by omega⟩
  rw [F_X12_readAtom_s]
  unfold B_X12_readAtom F_X12_readAtom_24 F_X12_readAtom_123
  have e41 := R.1.2.1.1
  rw [if_pos (by omega), R.2.1.1.2.1]
  unfold bAt at gd h
  by_cases c1 : dgB (bt t st.1) = true
  · rw [if_pos c1] at h
    rw [if_pos (tk_1 c1)]
    exact i_rNum E R c1 h
  rw [if_neg c1] at h gd
  rw [if_neg (fun e => c1 (tk_i.2.1 e))]
  by_cases c2 : bt t st.1 = 34
  · rw [if_pos c2] at h
    rw [if_pos (tk_2 c2)]
    exact i_rTxt E R c2 h
  rw [if_neg c2] at h gd
  rw [if_neg (fun e => c2 (tk_i.2.2.1 e))]
  by_cases c5 : refP t st.1
  · rw [if_pos c5] at h
    rw [tk_5 c5, if_neg (by decide), if_pos rfl]
    have bi := bt_in (t := t) (k := st.1 + 3) (by have := c5.2.2.2; omega)
    have k49 : mI u 0 49 = st.1 + 4 := by
      have kx := R.2.1.2
      rw [tk_5 c5] at kx
      exact kx.2.2.2.2.1 rfl
    refine i_op (op := 15) (n := 0) B R.1 (by omega) (by omega) (fun _ => rfl) ⟨⟨by decide, by decide⟩, by decide⟩ (by decide) (by rw [spE_snoc]; show 1 + undS _ 0 _ ≤ _; rw [und0]; omega) (fun _ _ => Or.inl (by unfold isRC; omega)) (fun v Rv A N' => ?_)
    refine i_nx E Rv (e := st.1 + 4) (by rw [A.1 0 46 (by omega) (by omega) (by omega), R.2.1.1.1, k49]) (by omega) (by omega) (by omega) (fun x Rx Tx => h x ⟨Rx, Tx⟩)
  rw [if_neg c5] at h gd
  by_cases c6 : bt t st.1 = 40
  · rw [if_pos c6] at h gd
    rw [tk_6 c6, if_neg (by decide), if_neg (by decide), if_neg (by decide), if_pos rfl]
    unfold bBr at h gd
    have bK := bt_in (t := t) (k := st.1) (by omega)
    have pK : mI u 0 48 = st.1 := by rw [R.2.1.1.2.2]; unfold peo; rw [if_pos bK.2]
    have k49 : mI u 0 49 = st.1 + 1 := by
      have kx := R.2.1.2
      rw [tk_6 c6] at kx
      exact kx.2.2.2.2.2.1 (Or.inl rfl)
    unfold F_X12_opens
    rw [R.1.2.1.2.2.2]
    by_cases c20 : o = 20
    · rw [if_pos c20, pK]
      rw [if_pos (by omega)] at h
      refine i_fail R.1 (by decide) h1 (fun x fx => ?_)
      dsimp only
      rw [if_pos rfl]
      exact h x fx
    · rw [if_neg c20, w32e (by omega) (by omega)]
      rw [if_neg (by omega)] at h gd
      rintro _ rfl
      rw [if_neg (by decide)]
      have f : FrM [(0, some 57)] u (uI u 0 57 (o + 1)) := FrM_uI FrM_rf (wHas_i (by decide))
      have R2 : PmR u0 (uI u 0 57 (o + 1)) d (o + 1) 0 st.1 st.2.1 st.2.2 := PmR_fr R.1 f (by decide) (by decide) (Int.le_refl _) (by simp [mI_uI]) ⟨(mE f (R := [(0, some 58)]) (by decide) (wHas_i (by decide))).trans R.1.2.2.2.1.1, fun n => (mE f (R := [(0, some 59)]) (by decide) (wHas_i (by decide))).trans (R.1.2.2.2.1.2 n)⟩ (fun a b => ⟨a, b⟩)
      have P2 : PrP t u0 (uI u 0 57 (o + 1)) d (o + 1) st := ⟨R2, TkM_f f (by decide) R.2.1, R.2.2.1, R.2.2.2⟩
      have kb := skp_b (t := t) (k := st.1 + 1) (by omega) (by omega)
      refine i_skp (e := st.1 + 1) E P2 (by rw [mE f (R := [(0, some 49)]) (by decide) (wHas_i (by decide))]; exact k49) (by omega) (by omega) (fun v Rv => ?_)
      generalize hr1 : (pg t S n).1 1 (o + 1) (skp t (st.1 + 1), st.2) = r1 at gd h
      refine HE 1 (by omega) (by omega) d (o + 1) _ M ⟨by omega, by omega⟩ (by omega) (by show gdP ((pg t S n).1 1 _ _); rw [hr1]; exact gd_rb gd) v _ Rv (fun y hy => ?_)
      replace hy : PoR t u0 d (o + 1) ((pg t S n).1 1 (o + 1) (skp t (st.1 + 1), st.2)) y := hy
      rw [hr1] at hy
      cases r1 with
      | inl e =>
        have fv : 0 < mI y 0 41 := by have := hy.2.1; omega
        exact i_shutF fv (h y hy)
      | inr s1 =>
        obtain ⟨q1, q2⟩ := G.1 _ _ (skp t (st.1 + 1), st.2) s1 ⟨⟨by show 0 ≤ skp t _; omega, kb.2.1⟩, R.2.2.1.2⟩ hr1
        simp only at q2
        replace h : ∀ v, PoR t u0 d o (if bt t s1.1 = 41 then .inr (skp t (s1.1 + 1), s1.2) else .inl (1, peo t s1.1)) v → P v := h
        refine i_shut E hy.1 hy.2 (by omega) q1.2.1.1 (fun c41 w' fw => ?_) (fun c41 w' Rw Tw => ?_) ⟨by omega, by omega⟩
        · rw [if_neg c41] at h; exact h w' fw
        · rw [if_pos c41] at h
          rw [show o + 1 - 1 = o by omega] at Rw
          exact h w' ⟨Rw, Tw⟩
  rw [if_neg c6] at h gd
  by_cases c3 : crP t st.1
  · rw [if_pos c3] at h
    rw [tk_3 c3, if_neg (by decide), if_neg (by decide), if_pos rfl]
    exact i_rSpot E R c3 h
  rw [if_neg c3] at h gd
  by_cases c4 : leB (bt t st.1) = true
  · rw [if_pos c4] at h gd
    rw [tk_4 c4 c3, if_pos rfl]
    exact i_word E HA R ho (by omega) c4 c3 gd h
  rw [if_neg c4] at h
  rw [if_neg (fun e => c4 (tk_i.2.2.2.2.1 e).1), if_neg (fun e => c5 (tk_i.2.2.2.2.2.1 e)), if_neg (fun e => c3 (tk_i.2.2.2.1 e)), if_neg (fun e => c6 (tk_i.2.2.2.2.2.2.1 e)), R.2.1.1.2.2]
  exact i_fail R.1 (by decide) h1 (fun v f => h v f)
theorem RowS_s {t : Tx} {S : SS} {u0 : Mu} {n : Nat} (E : EnP t S u0) (G : PgO t S (pg t S n)) (HE : RowE t S u0 n) (HS : RowS t S u0 n) (HA : RowA t S u0 n) : RowS t S u0 (n + 1) := by
  intro d o st N ho hN gd u P R h
  have b3 := E.1.2.1
  have B := E.2.1
  have h0 := R.2.2.1.1.1
  have h1 := R.2.2.1.1.2
  have len := R.2.2.2
  have er : (pg t S (n + 1)).2.1 o st = bSg t S (pg t S n) o st := rfl
  rw [er] at gd h
  unfold bSg at gd h
  obtain ⟨M, rfl⟩ : ∃ M, N = M + 1 := ⟨N - 1, by omega⟩
  show B_X12_readSign _ _ _ _ _ _ _ _ u P
  unfold B_X12_readSign F_X12_readSign_49
  by_cases c45 : bt t st.1 = 45
  · have s9 : sgO t st.1 = 9 := by unfold sgO; rw [c45]; rfl
    rw [if_pos c45] at gd h
    refine i_isg R.1 R.2.1 (fun _ _ _ => ?_) (fun q => absurd ⟨by omega, by omega, by omega⟩ q)
    rw [if_neg (by decide)]
    have bK := bt_in (t := t) (k := st.1) (by omega)
    have pK : mI u 0 48 = st.1 := by rw [R.2.1.1.2.2]; unfold peo; rw [if_pos bK.2]
    have k49 : mI u 0 49 = st.1 + 1 := by
      have kx := R.2.1.2
      rw [tk_9 (by omega)] at kx
      have := (kx.2.2.2.2.2.2 rfl).1
      rw [s9] at this
      exact this
    unfold F_X12_opens
    rw [R.1.2.1.2.2.2]
    by_cases c20 : o = 20
    · rw [if_pos c20, pK]
      rw [if_pos (by omega)] at h
      refine i_fail R.1 (by decide) h1 (fun x fx => ?_)
      dsimp only
      rw [if_pos rfl]
      exact h x fx
    · rw [if_neg c20, w32e (by omega) (by omega)]
      rw [if_neg (by omega)] at h gd
      rintro _ rfl
      rw [if_neg (by decide)]
      have f : FrM [(0, some 57)] u (uI u 0 57 (o + 1)) := FrM_uI FrM_rf (wHas_i (by decide))
      have R2 : PmR u0 (uI u 0 57 (o + 1)) d (o + 1) 0 st.1 st.2.1 st.2.2 := PmR_fr R.1 f (by decide) (by decide) (Int.le_refl _) (by simp [mI_uI]) ⟨(mE f (R := [(0, some 58)]) (by decide) (wHas_i (by decide))).trans R.1.2.2.2.1.1, fun n => (mE f (R := [(0, some 59)]) (by decide) (wHas_i (by decide))).trans (R.1.2.2.2.1.2 n)⟩ (fun a b => ⟨a, b⟩)
      have P2 : PrP t u0 (uI u 0 57 (o + 1)) d (o + 1) st := ⟨R2, TkM_f f (by decide) R.2.1, R.2.2.1, R.2.2.2⟩
      have kb := skp_b (t := t) (k := st.1 + 1) (by omega) (by omega)
      refine i_skp (e := st.1 + 1) E P2 (by rw [mE f (R := [(0, some 49)]) (by decide) (wHas_i (by decide))]; exact k49) (by omega) (by omega) (fun v Rv => ?_)
      generalize hr1 : (pg t S n).2.1 (o + 1) (skp t (st.1 + 1), st.2) = r1 at gd h
      refine HS d (o + 1) _ M ⟨by omega, by omega⟩ (by omega) (by rw [hr1]; exact gd_rb gd) v _ Rv (fun y hy => ?_)
      rw [hr1] at hy
      rintro _ rfl
      cases r1 with
      | inl e =>
        have fy := hy.2.1
        have z41 : mI (uI y 0 57 (w32 ((mI y 0 57) - 1))) 0 41 = mI y 0 41 := by simp [mI_uI]
        have fz : FrM [(0, some 57)] y (uI y 0 57 (w32 ((mI y 0 57) - 1))) := FrM_uI FrM_rf (wHas_i (by decide))
        refine i_prtF (by rw [z41]; omega) (fun _ => h _ ?_)
        have n19 : 0 ≤ mI y 0 19 := by have := hy.1.2.1; omega
        exact ⟨⟨FrM_tr hy.1.1 (FrM_sub fz (by decide)), Grw_t hy.1.2 (Grw_fr n19 fz (by decide))⟩, ⟨by rw [z41]; exact fy.1, by simp [mI_uI]; exact fy.2.1, fy.2.2⟩, by have := hy.2.2; simp [mI_uI]; exact this⟩
      | inr s1 =>
        obtain ⟨q1, q2⟩ := G.2.1 _ (skp t (st.1 + 1), st.2) s1 ⟨⟨by show 0 ≤ skp t _; omega, kb.2.1⟩, R.2.2.1.2⟩ hr1
        simp only at q2
        have c1 := q1.2.2.1
        simp only at c1
        have q21 := q1.2.1.1
        have fz : FrM [(0, some 57)] y (uI y 0 57 (w32 ((mI y 0 57) - 1))) := FrM_uI FrM_rf (wHas_i (by decide))
        have e57 : mI (uI y 0 57 (w32 ((mI y 0 57) - 1))) 0 57 = o := by
          rw [mI_uI, if_pos ⟨rfl, rfl⟩, hy.1.2.1.2.2.2, w32e (by omega) (by omega)]; omega
        have R3 : PmR u0 (uI y 0 57 (w32 ((mI y 0 57) - 1))) d o 0 s1.1 s1.2.1 s1.2.2 := PmR_fr hy.1 fz (by decide) (by decide) (Int.le_refl _) e57 ⟨(mE fz (R := [(0, some 58)]) (by decide) (wHas_i (by decide))).trans hy.1.2.2.2.1.1, fun n => (mE fz (R := [(0, some 59)]) (by decide) (wHas_i (by decide))).trans (hy.1.2.2.2.1.2 n)⟩ (fun a b => ⟨a, b⟩)
        have T3 := TkM_f fz (by decide) hy.2
        have sg1 := Seg_1 (p := opP 13 1) q1.1.1 rfl (by show ¬ (14 ≤ (13 : Int) ∧ _); omega)
        obtain ⟨rs, e1, e2, e3, e4⟩ := sg1
        have b := (e4 s1.2.1.length (by rw [List.length_append, List.length_singleton]; omega)).1
        refine i_op (op := 13) (n := 1) B R3 (by omega) (by omega) (fun z => by have := (Seg_p q1.1.1).1; omega) ⟨⟨by decide, by decide⟩, by decide⟩ (by decide) ?_ (fun _ _ => Or.inl (by unfold isRC; omega)) (fun x Rx A N' => h x ⟨Rx, TkM_a A T3⟩)
        unfold spE
        rw [List.length_append, List.length_singleton, Nat.add_sub_cancel]
        exact b
  · rw [if_neg c45] at gd h
    refine i_isg R.1 R.2.1 (fun a b c => ?_) (fun _ => ?_)
    · exfalso
      have s9 : sgO t st.1 = 9 := by omega
      unfold sgO at s9
      revert s9
      repeat' split
      all_goals omega
    · rw [if_pos rfl]
      exact i_atom E G HE HA R ho (by omega) gd h
theorem Rows {t : Tx} {S : SS} {u0 : Mu} (E : EnP t S u0) (hI : ∀ v, isShP v S → IdS (shOf v S)) : ∀ n, RowE t S u0 n ∧ RowS t S u0 n ∧ RowL t S u0 n ∧ RowA t S u0 n
  | 0 => by
    refine ⟨?_, ?_, ?_, ?_⟩
    · intro l _ _ d o st N _ _ gd
      exact absurd (gd (0, 0) rfl) (by decide)
    · intro d o st N _ _ gd
      exact absurd (gd (0, 0) rfl) (by decide)
    · intro l m _ _ _ d o st ps0 Nf _ _ _ _ _ gd
      exact absurd (gd (0, 0) rfl) (by decide)
    · intro op fr d o cs st ps0 N _ _ _ _ _ _ _ _ gd
      exact absurd (gd (0, 0) rfl) (by decide)
  | n + 1 => by
    have G := pg_ok (t := t) (S := S) hI E.2.2.1.2.1 n
    obtain ⟨h1, h2, h3, h4⟩ := Rows E hI n
    exact ⟨RowE_s G h2 h3, RowS_s E G h1 h2 h4, RowL_s E G h1 h3, RowA_s E hI G h1 h4⟩
