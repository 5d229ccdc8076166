/-! ===== the reference reads numbers, texts, places ===== -/
theorem tk_1 {t : Tx} {k : Int} (h : dgB (bt t k) = true) : tkK t k = 1 := by
  unfold tkK; rw [if_neg (fun e => by rw [e] at h; cases h), if_pos h]
theorem tk_2 {t : Tx} {k : Int} (h : bt t k = 34) : tkK t k = 2 := by
  unfold tkK; rw [if_neg (by omega), if_neg (by rw [dgB_i]; unfold dgP; omega), if_pos h]
theorem crP_w {t : Tx} {k : Int} (h : crP t k) : leB (bt t k) = true ∨ bt t k = 36 := by
  by_cases c : bt t k = 36
  · exact Or.inr c
  · refine Or.inl (leB_i.mpr ?_)
    have := h.1
    rw [cr0_n c] at this
    omega
theorem tk_w {t : Tx} {k : Int} (h : leB (bt t k) = true ∨ bt t k = 36) : tkK t k = if crP t k then 3 else if bt t k = 36 then 10 else 4 := by
  have b : (65 ≤ bt t k ∧ bt t k ≤ 90) ∨ bt t k = 36 := h.imp leB_i.mp id
  unfold tkK
  rw [if_neg (by omega), if_neg (by rw [dgB_i]; unfold dgP; omega), if_neg (by omega), if_pos h]
theorem tk_3 {t : Tx} {k : Int} (h : crP t k) : tkK t k = 3 := by rw [tk_w (crP_w h), if_pos h]
theorem tk_4 {t : Tx} {k : Int} (h : leB (bt t k) = true) (n : ¬ crP t k) : tkK t k = 4 := by
  have b := leB_i.mp h
  rw [tk_w (Or.inl h), if_neg n, if_neg (by omega)]
theorem tk_o {t : Tx} {k : Int} (h1 : bt t k ≠ -1) (h2 : ¬ dgB (bt t k) = true) (h3 : bt t k ≠ 34) (h4 : ¬ (leB (bt t k) = true ∨ bt t k = 36)) : tkK t k = if refP t k then 5 else if sgO t k ≠ 0 then 9 else if bt t k = 40 then 6 else if bt t k = 41 then 7 else if bt t k = 44 then 8 else 10 := by
  unfold tkK; rw [if_neg h1, if_neg h2, if_neg h3, if_neg h4]
theorem sgO_v {t : Tx} {k : Int} (h : sgO t k ≠ 0) : bt t k = 61 ∨ bt t k = 60 ∨ bt t k = 62 ∨ bt t k = 38 ∨ bt t k = 43 ∨ bt t k = 45 ∨ bt t k = 42 ∨ bt t k = 47 ∨ bt t k = 37 := by
  unfold sgO at h
  revert h
  repeat' split
  all_goals omega
theorem sgO_z {t : Tx} {k : Int} (h : bt t k = 40 ∨ bt t k = 41 ∨ bt t k = 44 ∨ bt t k = 35 ∨ bt t k = 58 ∨ bt t k = -1) : sgO t k = 0 := by
  apply Classical.byContradiction
  intro n
  have := sgO_v n
  omega
theorem tk_p {t : Tx} {k : Int} (h : bt t k = 35 ∨ bt t k = 40 ∨ bt t k = 41 ∨ bt t k = 44 ∨ sgO t k ≠ 0) : tkK t k = if refP t k then 5 else if sgO t k ≠ 0 then 9 else if bt t k = 40 then 6 else if bt t k = 41 then 7 else if bt t k = 44 then 8 else 10 := by
  have b : bt t k = 35 ∨ bt t k = 40 ∨ bt t k = 41 ∨ bt t k = 44 ∨ bt t k = 61 ∨ bt t k = 60 ∨ bt t k = 62 ∨ bt t k = 38 ∨ bt t k = 43 ∨ bt t k = 45 ∨ bt t k = 42 ∨ bt t k = 47 ∨ bt t k = 37 := by
    rcases h with h | h | h | h | h
    · omega
    · omega
    · omega
    · omega
    · have := sgO_v h; omega
  exact tk_o (by omega) (by rw [dgB_i]; unfold dgP; omega) (by omega) (by rw [leB_i]; omega)
theorem tk_5 {t : Tx} {k : Int} (h : refP t k) : tkK t k = 5 := by rw [tk_p (Or.inl h.1), if_pos h]
theorem nref {t : Tx} {k : Int} (h : bt t k ≠ 35) : ¬ refP t k := fun r => h r.1
theorem tk_6 {t : Tx} {k : Int} (h : bt t k = 40) : tkK t k = 6 := by rw [tk_p (Or.inr (Or.inl h)), if_neg (nref (by omega)), if_neg (not_not_intro (sgO_z (Or.inl h))), if_pos h]
theorem tk_7 {t : Tx} {k : Int} (h : bt t k = 41) : tkK t k = 7 := by rw [tk_p (Or.inr (Or.inr (Or.inl h))), if_neg (nref (by omega)), if_neg (not_not_intro (sgO_z (Or.inr (Or.inl h)))), if_neg (by omega), if_pos h]
theorem tk_8 {t : Tx} {k : Int} (h : bt t k = 44) : tkK t k = 8 := by rw [tk_p (Or.inr (Or.inr (Or.inr (Or.inl h)))), if_neg (nref (by omega)), if_neg (not_not_intro (sgO_z (Or.inr (Or.inr (Or.inl h))))), if_neg (by omega), if_neg (by omega), if_pos h]
theorem tk_9 {t : Tx} {k : Int} (h : sgO t k ≠ 0) : tkK t k = 9 := by
  have := sgO_v h
  rw [tk_p (Or.inr (Or.inr (Or.inr (Or.inr h)))), if_neg (nref (by omega)), if_pos h]
theorem tk_i {t : Tx} {k : Int} : (tkK t k = 0 → bt t k = -1) ∧ (tkK t k = 1 → dgB (bt t k) = true) ∧ (tkK t k = 2 → bt t k = 34) ∧ (tkK t k = 3 → crP t k) ∧ (tkK t k = 4 → leB (bt t k) = true ∧ ¬ crP t k) ∧ (tkK t k = 5 → refP t k) ∧ (tkK t k = 6 → bt t k = 40) ∧ (tkK t k = 7 → bt t k = 41) ∧ (tkK t k = 8 → bt t k = 44) ∧ (tkK t k = 9 → sgO t k ≠ 0) := by
  by_cases h1 : bt t k = -1
  · have e : tkK t k = 0 := by unfold tkK; rw [if_pos h1]
    rw [e]
    exact ⟨fun _ => h1, by omega, by omega, by omega, by omega, by omega, by omega, by omega, by omega, by omega⟩
  by_cases h2 : dgB (bt t k) = true
  · rw [tk_1 h2]
    exact ⟨by omega, fun _ => h2, by omega, by omega, by omega, by omega, by omega, by omega, by omega, by omega⟩
  by_cases h3 : bt t k = 34
  · rw [tk_2 h3]
    exact ⟨by omega, by omega, fun _ => h3, by omega, by omega, by omega, by omega, by omega, by omega, by omega⟩
  by_cases h4 : leB (bt t k) = true ∨ bt t k = 36
  · rw [tk_w h4]
    by_cases c : crP t k
    · rw [if_pos c]
      exact ⟨by omega, by omega, by omega, fun _ => c, by omega, by omega, by omega, by omega, by omega, by omega⟩
    · rw [if_neg c]
      by_cases e : bt t k = 36
      · rw [if_pos e]
        exact ⟨by omega, by omega, by omega, by omega, by omega, by omega, by omega, by omega, by omega, by omega⟩
      · rw [if_neg e]
        exact ⟨by omega, by omega, by omega, by omega, fun _ => ⟨h4.resolve_right e, c⟩, by omega, by omega, by omega, by omega, by omega⟩
  rw [tk_o h1 h2 h3 h4]
  by_cases c5 : refP t k
  · rw [if_pos c5]
    exact ⟨by omega, by omega, by omega, by omega, by omega, fun _ => c5, by omega, by omega, by omega, by omega⟩
  rw [if_neg c5]
  by_cases c9 : sgO t k ≠ 0
  · rw [if_pos c9]
    exact ⟨by omega, by omega, by omega, by omega, by omega, by omega, by omega, by omega, by omega, fun _ => c9⟩
  rw [if_neg c9]
  by_cases c6 : bt t k = 40
  · rw [if_pos c6]
    exact ⟨by omega, by omega, by omega, by omega, by omega, by omega, fun _ => c6, by omega, by omega, by omega⟩
  rw [if_neg c6]
  by_cases c7 : bt t k = 41
  · rw [if_pos c7]
    exact ⟨by omega, by omega, by omega, by omega, by omega, by omega, by omega, fun _ => c7, by omega, by omega⟩
  rw [if_neg c7]
  by_cases c8 : bt t k = 44
  · rw [if_pos c8]
    exact ⟨by omega, by omega, by omega, by omega, by omega, by omega, by omega, by omega, fun _ => c8, by omega⟩
  rw [if_neg c8]
  exact ⟨by omega, by omega, by omega, by omega, by omega, by omega, by omega, by omega, by omega, by omega⟩
theorem und0 (ps : List Prt) (j : Int) : 1 + undS (spnL ps) 0 j = 1 := by rw [undS]; rfl
theorem i_rNum {t : Tx} {S : SS} {u0 u : Mu} {d : Prop} {o : Int} {st : PS} {P : Mu → Prop} (E : EnP t S u0) (R : PrP t u0 u d o st) (hd : dgB (bt t st.1) = true) (h : ∀ v, PoR t u0 d o (pNum t st) v → P v) : F_X12_readPlain u P := by
  obtain ⟨R1, ⟨⟨k1, k2, k3⟩, kx⟩, R3, R4⟩ := R
  have b3 := E.1.2.1
  have k47 := tk_1 hd
  rw [k47] at k2 kx
  obtain ⟨k49, k51⟩ := kx.1 rfl
  have bi := bt_in (t := t) (k := st.1) (fun e => by rw [e] at hd; cases hd)
  have rb0 := rn_b (p := dgB) (t := t) dgB_n R3.1.1
  have r1 := rn_1 (t := t) dgB_n R3.1.1 hd
  have rb1 := rn_b (p := dgB) (t := t) (k := st.1 + 1) dgB_n (by omega)
  have ep : peo t st.1 = st.1 := by unfold peo; rw [if_pos bi.2]
  have B := E.2.1
  unfold F_X12_readPlain F_X12_readPlain_99
  unfold pNum at h
  by_cases c : rn dgB t st.1 - st.1 ≤ 15
  · rw [if_neg (by omega)] at h
    rw [if_pos c] at k51
    rw [if_pos (by omega), if_pos k2]
    refine i_prt (n := 0) B R1 (by omega) (by omega) (fun _ => rfl) (by rw [und0]; omega) (fun v A n19 e19 => ?_)
    rw [und0] at n19
    have Cv : CxM t v := CxM_f (AdQ_fr A) (by decide) (CxM_p E R1)
    rw [A.1 0 48 (by omega) (by omega) (by omega), A.1 0 49 (by omega) (by omega) (by omega), k3, k49, ep]
    refine i_numF Cv R3.1.1 (by omega) (by omega) c (fun j a b => rb0.2.2.2 j a b) ?_
    refine ⟨by have := B.1; omega, by have := B.1; omega, ?_⟩
    rintro _ rfl
    obtain ⟨a1, a2, a3, a4, a5, a6, ⟨a7, a8, a9, a10⟩, a11, a12⟩ := n19
    have Q : OnQ v (uG v 29 (mI u0 0 25 + (st.2.1.length : Int)) (numV t (rn dgB t st.1 - st.1).toNat st.1 0)) (mI u0 0 25 + (st.2.1.length : Int)) := ⟨fun _ _ _ => rfl, fun k i n => by rw [mG_uG, if_neg (by omega)]⟩
    have A2 := AdQ_tr A Q
    have g29 : mG (uG v 29 (mI u0 0 25 + (st.2.1.length : Int)) (numV t (rn dgB t st.1 - st.1).toNat st.1 0)) 29 (mI u0 0 25 + (st.2.1.length : Int)) = numV t (rn dgB t st.1 - st.1).toNat st.1 0 := by rw [mG_uG, if_pos ⟨rfl, rfl⟩]
    have eI : ∀ k i, mI (uG v 29 (mI u0 0 25 + (st.2.1.length : Int)) (numV t (rn dgB t st.1 - st.1).toNat st.1 0)) k i = mI v k i := fun _ _ => rfl
    generalize uG v 29 (mI u0 0 25 + (st.2.1.length : Int)) (numV t (rn dgB t st.1 - st.1).toNat st.1 0) = y at Q A2 g29 eI
    have pr : PrR y (mI u0 0 25 + (st.2.1.length : Int)) (litP (1, numV t (rn dgB t st.1 - st.1).toNat st.1 0, [])) := by
      refine ⟨⟨⟨by show (1 : Int) ≤ 14; decide, by show (14 : Int) ≤ 35; decide⟩, fun _ => ⟨_, rfl, by show (1 : Int) ≤ 1; decide, by show (1 : Int) ≤ 3; decide⟩⟩, (eI _ _).trans a1, (eI _ _).trans a2, ⟨g29, (eI _ _).trans a6, ?_⟩, (eI _ _).trans a7, (eI _ _).trans a8, (eI _ _).trans a9, (eI _ _).trans a10, (eI _ _).trans a12⟩
      rw [eI, a5]
      refine ⟨Int.le_refl 0, ?_, fun i hi => by cases hi⟩
      show (0 : Int) + 0 ≤ _
      rw [eI, e19]
      have := R1.1.2.1
      omega
    have R2 := PmR_add (nl' := 0) (a2 := rn dgB t st.1) B R1 A2 pr (by rw [eI, a3, spE_snoc]; show (1 : Int) = 1 + undS _ 0 _; rw [und0]) (fun _ _ => (eI _ _).trans a11) (fun _ _ => Or.inl (by unfold isRC; show (0 : Int) = 29 ∨ (0 : Int) = 30 ↔ (14 : Int) = 29 ∨ (14 : Int) = 30; omega)) (by rw [eI, e19]; have := R1.2.2.1; omega)
    refine i_nx E R2 (e := rn dgB t st.1) ?_ (by omega) (by omega) (Int.le_refl _) (fun x Rx kx' => h x ⟨Rx, kx'⟩)
    rw [eI, A.1 0 46 (by omega) (by omega) (by omega), k1, k49]
  · rw [if_pos (by omega)] at h
    rw [if_neg c] at k51
    rw [if_neg (by omega), k51]
    exact i_fail R1 (by decide) (by omega) (fun v f => h v f)
theorem i_rTxt {t : Tx} {S : SS} {u0 u : Mu} {d : Prop} {o : Int} {st : PS} {P : Mu → Prop} (E : EnP t S u0) (R : PrP t u0 u d o st) (hd : bt t st.1 = 34) (h : ∀ v, PoR t u0 d o (pQuo t st) v → P v) : F_X12_readPlain u P := by
  obtain ⟨R1, ⟨⟨k1, k2, k3⟩, kx⟩, R3, R4⟩ := R
  have b3 := E.1.2.1
  have k47 := tk_2 hd
  rw [k47] at k2 kx
  have kq := kx.2.1 rfl
  have bi := bt_in (t := t) (k := st.1) (by omega)
  have ep : peo t st.1 = st.1 := by unfold peo; rw [if_pos bi.2]
  have B := E.2.1
  unfold F_X12_readPlain F_X12_readPlain_99
  unfold pQuo at h
  rcases kq with ⟨p, hq, k51, p0⟩ | ⟨i, hq, k51, k49⟩
  · rw [hq] at h
    rw [if_neg (by omega), k51]
    exact i_fail R1 (by decide) (by omega) (fun v f => h v f)
  · rw [hq] at h
    obtain ⟨q1, q2, q3, q4, q5⟩ := qu_f _ _ _ (Int.le_refl _) (by omega) R3.1.1 (fun j a b => by omega) hq
    rw [if_pos (by omega), if_neg (by omega)]
    refine i_prt (n := 0) B R1 (by omega) (by omega) (fun _ => rfl) (by rw [und0]; omega) (fun v A n19 e19 => ?_)
    rw [und0] at n19
    have Cv : CxM t v := CxM_f (AdQ_fr A) (by decide) (CxM_p E R1)
    have r19 := R1.1.2.1
    have r19b := R1.2.2.1
    have m19 := B.2
    rw [A.1 0 48 (by omega) (by omega) (by omega), A.1 0 49 (by omega) (by omega) (by omega), k3, k49, ep, w32e (x := st.1 + 1) (by omega) (by omega), w32e (x := i + 1 - 1) (by omega) (by omega), show i + 1 - 1 = i by omega]
    refine i_kept Cv (by omega) (by omega) (by omega) (fun j a b => q5 j a b) (by rw [e19]; omega) (by rw [e19]; omega) (fun y f1 f2 f3 f4 => ?_)
    rw [e19] at f1 f3 f4 ⊢
    have hM := B.1
    refine ⟨by omega, by omega, ?_⟩
    rintro _ rfl
    refine ⟨by omega, by omega, ?_⟩
    have g48 : mI (uI y 30 (mI u0 0 25 + (st.2.1.length : Int)) (mI u 0 19)) 0 48 = st.1 := by rw [mI_uI, if_neg (by omega), f1 0 48 (by omega) (by omega), A.1 0 48 (by omega) (by omega) (by omega), k3, ep]
    have g49 : mI (uI y 30 (mI u0 0 25 + (st.2.1.length : Int)) (mI u 0 19)) 0 49 = i + 1 := by rw [mI_uI, if_neg (by omega), f1 0 49 (by omega) (by omega), A.1 0 49 (by omega) (by omega) (by omega), k49]
    rw [g48, g49, w32e (x := i + 1 - st.1) (by omega) (by omega), w32e (x := i + 1 - st.1 - 2) (by omega) (by omega)]
    rintro _ rfl
    obtain ⟨a1, a2, a3, a4, a5, a6, ⟨a7, a8, a9, a10⟩, a11, a12⟩ := n19
    have eI : ∀ k j, ¬ (k = 0 ∧ j = 19) → k ≠ 18 → k ≠ 30 → k ≠ 31 → mI (uI (uI y 30 (mI u0 0 25 + (st.2.1.length : Int)) (mI u 0 19)) 31 (mI u0 0 25 + (st.2.1.length : Int)) (i + 1 - st.1 - 2)) k j = mI v k j := fun k j n1 n2 n3 n4 => by rw [mI_uI, if_neg (by omega), mI_uI, if_neg (by omega)]; exact f1 k j n1 (by omega)
    have e30 : mI (uI (uI y 30 (mI u0 0 25 + (st.2.1.length : Int)) (mI u 0 19)) 31 (mI u0 0 25 + (st.2.1.length : Int)) (i + 1 - st.1 - 2)) 30 (mI u0 0 25 + (st.2.1.length : Int)) = mI u 0 19 := by rw [mI_uI, if_neg (by omega), mI_uI, if_pos ⟨rfl, rfl⟩]
    have e31 : mI (uI (uI y 30 (mI u0 0 25 + (st.2.1.length : Int)) (mI u 0 19)) 31 (mI u0 0 25 + (st.2.1.length : Int)) (i + 1 - st.1 - 2)) 31 (mI u0 0 25 + (st.2.1.length : Int)) = i + 1 - st.1 - 2 := by rw [mI_uI, if_pos ⟨rfl, rfl⟩]
    have z19 : mI (uI (uI y 30 (mI u0 0 25 + (st.2.1.length : Int)) (mI u 0 19)) 31 (mI u0 0 25 + (st.2.1.length : Int)) (i + 1 - st.1 - 2)) 0 19 = mI u 0 19 + (i - (st.1 + 1)) := by rw [mI_uI, if_neg (by omega), mI_uI, if_neg (by omega)]; exact f3
    have zL : LetM (uI (uI y 30 (mI u0 0 25 + (st.2.1.length : Int)) (mI u 0 19)) 31 (mI u0 0 25 + (st.2.1.length : Int)) (i + 1 - st.1 - 2)) (mI u 0 19) (subL t (st.1 + 1) (i - (st.1 + 1)).toNat) := ⟨f4.1, by rw [z19, ← f3]; exact f4.2.1, fun j hj => by rw [mI_uI, if_neg (by omega), mI_uI, if_neg (by omega)]; exact f4.2.2 j hj⟩
    have gG : ∀ k j, mG (uI (uI y 30 (mI u0 0 25 + (st.2.1.length : Int)) (mI u 0 19)) 31 (mI u0 0 25 + (st.2.1.length : Int)) (i + 1 - st.1 - 2)) k j = mG v k j := f2
    have A2 : AdQ u (uI (uI y 30 (mI u0 0 25 + (st.2.1.length : Int)) (mI u 0 19)) 31 (mI u0 0 25 + (st.2.1.length : Int)) (i + 1 - st.1 - 2)) (mI u0 0 25 + (st.2.1.length : Int)) := by
      refine ⟨fun k j n1 n2 n3 => ?_, fun k j n => (gG k j).trans (A.2.1 k j n), ?_, ?_⟩
      · rw [mI_uI, if_neg (by omega), mI_uI, if_neg (by omega), f1 k j (by omega) (by omega)]; exact A.1 k j n1 n2 n3
      · rw [eI 0 56 (by omega) (by omega) (by omega) (by omega)]; exact A.2.2.1
      · rw [z19]; omega
    generalize uI (uI y 30 (mI u0 0 25 + (st.2.1.length : Int)) (mI u 0 19)) 31 (mI u0 0 25 + (st.2.1.length : Int)) (i + 1 - st.1 - 2) = x at eI e30 e31 z19 zL gG A2
    have pr : PrR x (mI u0 0 25 + (st.2.1.length : Int)) (litP (2, 0, subL t (st.1 + 1) (i - (st.1 + 1)).toNat)) := by
      refine ⟨⟨⟨by show (1 : Int) ≤ 14; decide, by show (14 : Int) ≤ 35; decide⟩, fun _ => ⟨_, rfl, by show (1 : Int) ≤ 2; decide, by show (2 : Int) ≤ 3; decide⟩⟩, (eI _ _ (by omega) (by omega) (by omega) (by omega)).trans a1, (eI _ _ (by omega) (by omega) (by omega) (by omega)).trans a2, ⟨(gG _ _).trans a4, ?_, ?_⟩, (eI _ _ (by omega) (by omega) (by omega) (by omega)).trans a7, (eI _ _ (by omega) (by omega) (by omega) (by omega)).trans a8, (eI _ _ (by omega) (by omega) (by omega) (by omega)).trans a9, (eI _ _ (by omega) (by omega) (by omega) (by omega)).trans a10, (eI _ _ (by omega) (by omega) (by omega) (by omega)).trans a12⟩
      · show mI x 31 _ = ((subL t (st.1 + 1) (i - (st.1 + 1)).toNat).length : Int)
        rw [e31, subL_len]; omega
      · rw [e30]; exact zL
    have R2 := PmR_add (nl' := 0) (a2 := i + 1) B R1 A2 pr (by rw [eI 28 _ (by omega) (by omega) (by omega) (by omega), a3, spE_snoc]; show (1 : Int) = 1 + undS _ 0 _; rw [und0]) (fun _ _ => (eI 36 _ (by omega) (by omega) (by omega) (by omega)).trans a11) (fun _ _ => Or.inl (by unfold isRC; show (0 : Int) = 29 ∨ (0 : Int) = 30 ↔ (14 : Int) = 29 ∨ (14 : Int) = 30; omega)) (by rw [z19]; omega)
    refine i_nx E R2 (e := i + 1) ?_ (by omega) (by omega) (Int.le_refl _) (fun x Rx kx' => h x ⟨Rx, kx'⟩)
    rw [eI 0 46 (by omega) (by omega) (by omega) (by omega), A.1 0 46 (by omega) (by omega) (by omega), k1, k49]
