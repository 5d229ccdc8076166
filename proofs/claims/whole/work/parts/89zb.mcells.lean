/-! ===== merging: conflicts and cells of the reference ===== -/
def CfLM (u : Mu) (D : List Cf) : Prop := mI u 0 98 = (D.length : Int) ∧ ∀ i : Nat, i < D.length → CfM u i (D.getD i cf0)
theorem gC_app {D : List Cf} {e : Cf} {i : Nat} (hi : i < D.length + 1) : (D ++ [e]).getD i cf0 = if i = D.length then e else D.getD i cf0 := by
  rw [List.getD_eq_getElem?_getD, List.getD_eq_getElem?_getD]
  by_cases c : i = D.length
  · rw [if_pos c, c, List.getElem?_append_right (Nat.le_refl _)]; simp
  · rw [if_neg c, List.getElem?_append_left (by omega)]
/-- the fields of conflict n written -/
def clU (v : Mu) (n k r c hd : Int) : Mu := uI (uI (uI (uI (uI (uI (uI (uI v 91 n k) 92 n r) 93 n c) 96 n hd) 94 n 0) 95 n 0) 97 n 0) 0 98 (n + 1)
theorem i_clash {v : Mu} {n k r c hd : Int} {P : Mu → Prop} (hn : mI v 0 98 = n) (n0 : 0 ≤ n) (n1 : n < 370) (hz : Z1 hd) (h : P (clU v n k r c hd)) : F_X12_clash k r c hd v P := by
  unfold F_X12_clash
  have e : ∀ (w : Mu) (kk : Nat) (i x : Int), kk ≠ 0 → mI w 0 98 = n → mI (uI w kk i x) 0 98 = n := fun w kk i x hk hw => by rw [mI_uI, if_neg (fun g => hk g.1.symm)]; exact hw
  rw [hn]
  refine ⟨n0, n1, ?_⟩
  rintro _ rfl
  have e1 := e v 91 n k (by decide) hn
  rw [e1]
  refine ⟨n0, n1, ?_⟩
  rintro _ rfl
  have e2 := e _ 92 n r (by decide) e1
  rw [e2]
  refine ⟨n0, n1, ?_⟩
  rintro _ rfl
  have e3 := e _ 93 n c (by decide) e2
  rw [e3]
  refine ⟨hz, n0, n1, ?_⟩
  rintro _ rfl
  have e4 := e _ 96 n hd (by decide) e3
  rw [e4]
  refine ⟨n0, n1, ?_⟩
  rintro _ rfl
  have e5 := e _ 94 n 0 (by decide) e4
  rw [e5]
  refine ⟨n0, n1, ?_⟩
  rintro _ rfl
  have e6 := e _ 95 n 0 (by decide) e5
  rw [e6]
  refine ⟨n0, n1, ?_⟩
  rintro _ rfl
  have e7 := e _ 97 n 0 (by decide) e6
  rw [e7, w32e (by omega) (by omega)]
  rintro _ rfl
  exact h
theorem clU_o {v : Mu} {n k r c hd : Int} {kk : Nat} {i : Int} (h1 : i ≠ n ∨ kk < 91 ∨ 97 < kk) (h2 : ¬ (kk = 0 ∧ i = 98)) : mI (clU v n k r c hd) kk i = mI v kk i := by
  unfold clU
  rw [mI_uI, if_neg h2, mI_uI, if_neg (by omega), mI_uI, if_neg (by omega), mI_uI, if_neg (by omega), mI_uI, if_neg (by omega), mI_uI, if_neg (by omega), mI_uI, if_neg (by omega), mI_uI, if_neg (by omega)]
theorem clU_f {u v : Mu} {n k r c hd : Int} (f : FrJ u v) : FrJ u (clU v n k r c hd) := by
  unfold clU
  refine FrJ_w (FrJ_w (FrJ_w (FrJ_w (FrJ_w (FrJ_w (FrJ_w (FrJ_w f ?_ ?_ ?_ ?_ ?_) ?_ ?_ ?_ ?_ ?_) ?_ ?_ ?_ ?_ ?_) ?_ ?_ ?_ ?_ ?_) ?_ ?_ ?_ ?_ ?_) ?_ ?_ ?_ ?_ ?_) ?_ ?_ ?_ ?_ ?_) ?_ ?_ ?_ ?_ ?_ <;> first | exact wHas_a (by decide) | exact wHas_i (by decide) | omega
theorem clU_n {v : Mu} {n k r c hd : Int} : mI (clU v n k r c hd) 0 98 = n + 1 ∧ mI (clU v n k r c hd) 91 n = k ∧ mI (clU v n k r c hd) 92 n = r ∧ mI (clU v n k r c hd) 93 n = c ∧ mI (clU v n k r c hd) 96 n = hd ∧ mI (clU v n k r c hd) 94 n = 0 ∧ mI (clU v n k r c hd) 95 n = 0 ∧ mI (clU v n k r c hd) 97 n = 0 := by
  unfold clU
  simp [mI_uI]
theorem CfM_o {v w : Mu} {i : Int} {f : Cf} (g : Grw v w) (h : ∀ kk : Nat, 91 ≤ kk → kk ≤ 97 → mI w kk i = mI v kk i) (k : CfM v i f) : CfM w i f := by
  obtain ⟨k1, k2, k3, k4, k5, k6⟩ := k
  unfold CfM
  rw [h 91 (by decide) (by decide), h 92 (by decide) (by decide), h 93 (by decide) (by decide), h 94 (by decide) (by decide), h 95 (by decide) (by decide), h 96 (by decide) (by decide), h 97 (by decide) (by decide)]
  exact ⟨k1, k2, k3, k4, fun q => ⟨ContM_g g (k5 q).1, ContM_g g (k5 q).2⟩, k6⟩
theorem CfLM_app {v w : Mu} {D : List Cf} {e : Cf} (g : Grw v w) (hn : mI w 0 98 = (D.length : Int) + 1) (ho : ∀ (kk : Nat) (i : Int), 91 ≤ kk → kk ≤ 97 → i ≠ (D.length : Int) → mI w kk i = mI v kk i) (he : CfM w (D.length : Int) e) (h : CfLM v D) : CfLM w (D ++ [e]) := by
  refine ⟨by rw [hn, List.length_append]; rfl, fun i hi => ?_⟩
  rw [List.length_append] at hi
  simp only [List.length_cons, List.length_nil] at hi
  rw [gC_app (by omega)]
  by_cases c : i = D.length
  · rw [if_pos c, c]; exact he
  · rw [if_neg c]
    exact CfM_o g (fun kk a1 a2 => ho kk i a1 a2 (by omega)) (h.2 i (by omega))
/-- conflicts of lines -/
theorem i_lineCf {u v : Mu} {t y ax : Int} {w s b : Sh} {L : List Int} {D : List Cf} {P : Mu → Prop} (B : CoB u) (hax : ax = 0 ∨ ax = 1) (bw : ShB w) (bs : ShB s) (bb : ShB b) (mw : ShM u 40 w) (ms : ShM u t s) (mb : ShM u y b) (ht : 0 ≤ t ∧ t < 121) (hy : 0 ≤ y ∧ y < 121) (f : FrJ u v) (l : Ln121 v ax L) (hL : (L.length : Int) ≤ mst ax) (hD : D.length + L.length ≤ 362) (d : CfLM v D) (h : ∀ x, FrJ u x → (∀ a M, Ln121 v a M → Ln121 x a M) → CfLM x (D ++ cfL w s b ax L L.length 0) → P x) : F_X12_lineConflicts t y ax v P := by
  have m32 := mst_32 ax
  unfold F_X12_lineConflicts F_X12_lineConflicts_3
  refine lp_I (S := Int × Mu) (fun q => (0 ≤ q.1 ∧ q.1 ≤ (L.length : Int)) ∧ FrJ u q.2 ∧ (∀ a M, Ln121 v a M → Ln121 q.2 a M) ∧ ∃ E, CfLM q.2 E ∧ E ++ cfL w s b ax L ((L.length : Int) - q.1).toNat q.1 = D ++ cfL w s b ax L L.length 0 ∧ (E.length : Int) ≤ D.length + q.1) (fun q => ((L.length : Int) - q.1).toNat) ?_ (0, v) ⟨⟨by show (0 : Int) ≤ 0; decide, by show (0 : Int) ≤ _; omega⟩, f, fun _ _ g => g, D, d, by show D ++ cfL w s b ax L ((L.length : Int) - 0).toNat 0 = _; rw [Int.sub_zero, Int.toNat_natCast], by show (D.length : Int) ≤ D.length + 0; omega⟩
  rintro G ⟨k, x⟩ ⟨⟨k0, k1⟩, fx, ox, E, dE, eE, nE⟩ ih
  simp only at k0 k1 fx ox dE eE nE
  unfold L_X12_lineConflicts_3 F_X12_lineConflicts_43 F_X12_lineConflicts_65 F_X12_lineConflicts_66 F_X12_lineConflicts_98 F_X12_lineConflicts_108 F_X12_lineConflicts_113
  dsimp only
  have mw' := FrJ_S fx B.1.1 bw (by decide) (by decide) mw
  have ms' := FrJ_S fx B.1.1 bs ht.1 ht.2 ms
  have mb' := FrJ_S fx B.1.1 bb hy.1 hy.2 mb
  obtain ⟨l1, l2⟩ := ox ax L l
  refine i_linesOf (by decide) (by decide) ?_
  rw [l1]
  by_cases ek : (L.length : Int) ≤ k
  · rw [if_pos ek]
    rw [show ((L.length : Int) - k).toNat = 0 by omega, cfL, List.append_nil] at eE
    exact h x fx ox (eE ▸ dE)
  · rw [if_neg ek, w32e (x := k + 1) (by omega) (by omega), w32e (x := ax + 1) (by omega) (by omega)]
    rw [show ((L.length : Int) - k).toNat = ((L.length : Int) - (k + 1)).toNat + 1 by omega, cfL, ← List.append_assoc] at eE
    refine i_lineAt (by decide) (by decide) k0 (by omega) ?_
    rw [l2 k k0 (by omega)]
    generalize gI L k = id at eE
    have p1 := plS_m w ax id
    have p2 := plS_m s ax id
    have p3 := plS_m b ax id
    have skip : cfE w s b ax id = [] → G (k + 1, x) := fun e => by
      rw [e, List.append_nil] at eE
      exact ih (k + 1, x) ⟨⟨by show 0 ≤ k + 1; omega, by show k + 1 ≤ _; omega⟩, fx, ox, E, dE, eE, by show (E.length : Int) ≤ D.length + (k + 1); omega⟩ (by show ((L.length : Int) - (k + 1)).toNat < ((L.length : Int) - k).toNat; omega)
    have note : ∀ hd r c, tb (0 ≤ plS w ax id) = hd → r = (if ax = 0 then id else -1) → c = (if ax = 0 then -1 else id) → ¬ (0 ≤ plS w ax id ∧ 0 ≤ plS s ax id) → 0 ≤ plS b ax id → F_X12_clash (ax + 1) r c hd x (fun u_110 => G (k + 1, u_110)) := fun hd r c h1 h2 h3 h4 h5 => by
      refine i_clash dE.1 (by omega) (by omega) (by rw [← h1]; exact tb_z) ?_
      have ee : cfE w s b ax id = [((ax + 1, r, c, hd), none, none, 0)] := by unfold cfE; rw [if_pos ⟨h4, h5⟩, h1, h2, h3]
      rw [ee] at eE
      have fc := clU_f (n := (E.length : Int)) (k := ax + 1) (r := r) (c := c) (hd := hd) fx
      obtain ⟨q1, q2, q3, q4, q5, q6, q7, q8⟩ := clU_n (v := x) (n := (E.length : Int)) (k := ax + 1) (r := r) (c := c) (hd := hd)
      have gx : Grw x (clU x (E.length : Int) (ax + 1) r c hd) := FrJ_g (clU_f FrJ_rf) (FrJ_B fx B).1.1
      refine ih (k + 1, _) ⟨⟨by show 0 ≤ k + 1; omega, by show k + 1 ≤ _; omega⟩, fc, fun a M hM => ?_, E ++ [((ax + 1, r, c, hd), none, none, 0)], ?_, eE, by show (((E ++ [_]).length : Nat) : Int) ≤ D.length + (k + 1); rw [List.length_append]; simp only [List.length_cons, List.length_nil]; omega⟩ (by show ((L.length : Int) - (k + 1)).toNat < ((L.length : Int) - k).toNat; omega)
      · obtain ⟨g1, g2⟩ := ox a M hM
        refine ⟨?_, fun j j0 j1 => ?_⟩
        · rw [← g1]; unfold lnM; split <;> exact clU_o (by omega) (by omega)
        · rw [← g2 j j0 j1]; unfold idM; split <;> exact clU_o (by omega) (by omega)
      · refine CfLM_app gx q1 (fun kk i a1 a2 a3 => clU_o (Or.inl a3) (by omega)) ⟨q2, q3, q4, q5, fun g => ?_, q8⟩ dE
        exact absurd (show ax + 1 = 3 from g) (by omega)
    refine i_placeS bw mw' (by decide) (by decide) ?_
    by_cases e1 : plS w ax id < 0
    · rw [if_pos e1, if_pos rfl, if_pos rfl]
      refine i_placeS bb mb' (by omega) (by omega) ?_
      by_cases e3 : plS b ax id < 0
      · rw [if_pos e3]; exact skip (by unfold cfE; rw [if_neg (fun g => by have := g.2; omega)])
      · rw [if_neg e3]
        have ht0 : tb (0 ≤ plS w ax id) = 0 := by rw [tb, if_neg (by omega)]
        by_cases ea : ax = 0
        · rw [if_pos ea, if_pos ea]; exact note 0 _ _ ht0 (by rw [if_pos ea]) (by rw [if_pos ea]) (fun g => by have := g.1; omega) (by omega)
        · rw [if_neg ea, if_neg ea]; exact note 0 _ _ ht0 (by rw [if_neg ea]) (by rw [if_neg ea]) (fun g => by have := g.1; omega) (by omega)
    · rw [if_neg e1, if_neg (by decide)]
      refine i_placeS bs ms' (by omega) (by omega) ?_
      by_cases e2 : plS s ax id < 0
      · rw [if_pos e2, if_pos rfl]
        refine i_placeS bb mb' (by omega) (by omega) ?_
        by_cases e3 : plS b ax id < 0
        · rw [if_pos e3]; exact skip (by unfold cfE; rw [if_neg (fun g => by have := g.2; omega)])
        · rw [if_neg e3]
          have ht1 : tb (0 ≤ plS w ax id) = 1 := by rw [tb, if_pos (by omega)]
          by_cases ea : ax = 0
          · rw [if_pos ea, if_pos ea]; exact note 1 _ _ ht1 (by rw [if_pos ea]) (by rw [if_pos ea]) (fun g => by have := g.2; omega) (by omega)
          · rw [if_neg ea, if_neg ea]; exact note 1 _ _ ht1 (by rw [if_neg ea]) (by rw [if_neg ea]) (fun g => by have := g.2; omega) (by omega)
      · rw [if_neg e2, if_neg (by decide)]
        exact skip (by unfold cfE; rw [if_neg (fun g => g.1 ⟨by omega, by omega⟩)])
theorem FrJ_gg {u v x : Mu} (f : FrJ u v) (g : FrJ u x) (h0 : 0 ≤ mI u 0 19) : Grw v x := by
  have e : ∀ (k : Nat) (i : Int), wHas rgC k i → mI x k i = mI v k i := fun k i h => (mE g.1 (R := rgC) (by decide) h).trans (mE f.1 (R := rgC) (by decide) h).symm
  have eg : ∀ (k : Nat) (i : Int), wHas rgC k i → mG x k i = mG v k i := fun k i h => (gE g.1 (R := rgC) (by decide) h).trans (gE f.1 (R := rgC) (by decide) h).symm
  have e1 := e 0 19 (wHas_i (by decide))
  have e2 := e 0 24 (wHas_i (by decide))
  have e3 := e 0 25 (wHas_i (by decide))
  exact ⟨⟨by rw [mE f.1 (R := rgC) (by decide) (k := 0) (i := 19) (wHas_i (by decide))]; exact h0, by omega, by omega, by omega⟩, fun i _ _ => e 18 i (wHas_a (by decide)), fun i _ _ => ⟨e 20 i (wHas_a (by decide)), eg 21 i (wHas_a (by decide)), e 22 i (wHas_a (by decide)), e 23 i (wHas_a (by decide))⟩, fun i _ _ => ⟨eg 29 i (wHas_a (by decide)), fun k h1 h2 => e k i (wHas_a (rgC_k k h1 h2))⟩⟩
/-- one cell -/
theorem i_newCell {u v : Mu} {t y r c : Int} {w s b : Sh} {row col : Int} {D : List Cf} {P : Mu → Prop} (B : CoB u) (bw : ShB w) (bs : ShB s) (bb : ShB b) (mw : ShM u 40 w) (ms : ShM u t s) (mb : ShM u y b) (ht : 0 ≤ t ∧ t < 121) (hy : 0 ≤ y ∧ y < 121) (hr : 0 ≤ r ∧ r < 32) (hc : 0 ≤ c ∧ c < 10) (f : FrJ u v) (er : idM v 121 0 r = row) (ec : idM v 121 1 c = col) (hD : D.length < 370) (d : CfLM v D) (h : ∀ x, FrJ u x → (∀ k i, k ≠ 5 → ¬ (91 ≤ k ∧ k ≤ 97) → ¬ (k = 0 ∧ i = 98) → mI x k i = mI v k i) → (∀ i, i ≠ 38720 + 10 * r + c → mI x 5 i = mI v 5 i) → ContM x (mI x 5 (38720 + 10 * r + c)) (clC w s b row col).1 → CfLM x (D ++ (clC w s b row col).2) → P x) : F_X12_newCell t y r c v P := by
  have mw' := FrJ_S f B.1.1 bw (by decide) (by decide) mw
  have ms' := FrJ_S f B.1.1 bs ht.1 ht.2 ms
  have mb' := FrJ_S f B.1.1 bb hy.1 hy.2 mb
  have B' := FrJ_B f B
  unfold F_X12_newCell
  refine i_lineAt (by decide) (by decide) hr.1 (by show r < 32; omega) (i_lineAt (by decide) (by decide) hc.1 (by show c < 10; omega) ?_)
  rw [er, ec]
  -- put a content, with the conflicts as they then are
  have put : ∀ (x : Mu) (q : Int) (k : Cont) (E : List Cf), FrJ u x → (∀ k i, k ≠ 5 → ¬ (91 ≤ k ∧ k ≤ 97) → ¬ (k = 0 ∧ i = 98) → mI x k i = mI v k i) → (∀ i, mI x 5 i = mI v 5 i) → ContM x q k → CfLM x E → clC w s b row col = (k, E.drop D.length) → E = D ++ E.drop D.length → F_X12_newCell_174 r c q x P := fun x q k E fx ox o5 hq hE e1 e2 => by
    unfold F_X12_newCell_174
    rw [w32e (x := 10 * r) (by omega) (by omega), w32e (x := 38720 + 10 * r) (by omega) (by omega), w32e (x := 38720 + 10 * r + c) (by omega) (by omega)]
    refine ⟨by omega, by omega, ?_⟩
    rintro _ rfl
    have fz : FrJ u (uI x 5 (38720 + 10 * r + c) q) := FrJ_w fx (wHas_a (by decide)) (by omega) (by omega) (by omega) (by omega)
    have gz : Grw x (uI x 5 (38720 + 10 * r + c) q) := FrJ_g (FrJ_w FrJ_rf (wHas_a (by decide)) (by omega) (by omega) (by omega) (by omega)) (FrJ_B fx B).1.1
    refine h _ fz (fun k i n1 n2 n3 => by rw [mI_uI, if_neg (fun g => n1 g.1)]; exact ox k i n1 n2 n3) (fun i hi => by rw [mI_uI, if_neg (fun g => hi g.2)]; exact o5 i) ?_ ?_
    · rw [mI_uI, if_pos ⟨rfl, rfl⟩, e1]; exact ContM_g gz hq
    · rw [e1]
      show CfLM _ (D ++ E.drop D.length)
      rw [← e2]
      refine ⟨by rw [mI_uI, if_neg (by omega)]; exact hE.1, fun i hi => CfM_o gz (fun kk a1 a2 => by rw [mI_uI, if_neg (by omega)]) (hE.2 i hi)⟩
  have stay : ∀ (q : Int) (k : Cont), ContM v q k → clC w s b row col = (k, []) → F_X12_newCell_174 r c q v P := fun q k hq e => put v q k D f (fun _ _ _ _ _ => rfl) (fun _ => rfl) hq d (by rw [e, List.drop_length]) (by rw [List.drop_length, List.append_nil])
  have none0 : ∀ {o : Sh}, ¬ knowsP o row col → cOf o row col = none := fun hk => by unfold cOf; rw [if_neg hk]
  refine i_content bw mw' (by decide) (by decide) (fun kw qw qw0 hqw => ?_) (fun kw => ?_)
  · refine i_content bs ms' (by omega) (by omega) (fun ks qs qs0 hqs => ?_) (fun ks => ?_)
    · have main : ∀ qb, ContM v qb (cOf b row col) → F_X12_newCell_66 r c row col qw qs qb v P := fun qb hqb => by
        unfold F_X12_newCell_66
        rw [if_pos qw0, if_neg (by omega)]
        have e0 : clC w s b row col = ci (cOf s row col = cOf b row col ∨ cOf w row col = cOf s row col) (cOf w row col, []) (ci (cOf w row col = cOf b row col) (cOf s row col, []) (cOf w row col, [((3, row, col, 1), cOf w row col, cOf s row col, 0)])) := by
          unfold clC; rw [if_neg (fun g => g ks), if_neg (fun g => g kw)]
        refine i_alike B' hqs hqb (fun g1 => ?_) (fun g1 => ?_)
        · rw [if_neg (by decide)]
          exact stay qw _ hqw (by rw [e0, ci_1 (Or.inl g1)])
        · rw [if_pos rfl]
          refine i_alike B' hqw hqs (fun g2 => ?_) (fun g2 => ?_)
          · rw [if_neg (by decide)]
            exact stay qw _ hqw (by rw [e0, ci_1 (Or.inr g2)])
          · rw [if_pos rfl]
            refine i_alike B' hqw hqb (fun g3 => ?_) (fun g3 => ?_)
            · rw [if_neg (by decide)]
              exact stay qs _ hqs (by rw [e0, ci_0 (fun g => g.elim g1 g2), ci_1 g3])
            · rw [if_pos rfl]
              refine i_clash d.1 (by omega) (by omega) z1_1 ?_
              have fc := clU_f (n := (D.length : Int)) (k := 3) (r := row) (c := col) (hd := 1) f
              obtain ⟨q1, q2, q3, q4, q5, q6, q7, q8⟩ := clU_n (v := v) (n := (D.length : Int)) (k := 3) (r := row) (c := col) (hd := 1)
              have oc : ∀ {kk : Nat} {i : Int}, (i ≠ (D.length : Int) ∨ kk < 91 ∨ 97 < kk) → ¬ (kk = 0 ∧ i = 98) → mI (clU v (D.length : Int) 3 row col 1) kk i = mI v kk i := fun a1 a2 => clU_o a1 a2
              have fcv : FrJ v (clU v (D.length : Int) 3 row col 1) := clU_f FrJ_rf
              generalize clU v (D.length : Int) 3 row col 1 = x1 at fc fcv q1 q2 q3 q4 q5 q6 q7 q8 oc
              rw [q1, w32e (x := (D.length : Int) + 1 - 1) (by omega) (by omega), show (D.length : Int) + 1 - 1 = (D.length : Int) by omega]
              refine ⟨by omega, by omega, ?_⟩
              rintro _ rfl
              have q1' : mI (uI x1 94 (D.length : Int) qw) 0 98 = (D.length : Int) + 1 := by rw [mI_uI, if_neg (by omega)]; exact q1
              rw [q1', w32e (x := (D.length : Int) + 1 - 1) (by omega) (by omega), show (D.length : Int) + 1 - 1 = (D.length : Int) by omega]
              refine ⟨by omega, by omega, ?_⟩
              rintro _ rfl
              have fz : FrJ u (uI (uI x1 94 (D.length : Int) qw) 95 (D.length : Int) qs) := FrJ_w (FrJ_w fc (wHas_a (by decide)) (by omega) (by omega) (by omega) (by omega)) (wHas_a (by decide)) (by omega) (by omega) (by omega) (by omega)
              have gz : Grw v (uI (uI x1 94 (D.length : Int) qw) 95 (D.length : Int) qs) := FrJ_g (FrJ_w (FrJ_w fcv (wHas_a (by decide)) (by omega) (by omega) (by omega) (by omega)) (wHas_a (by decide)) (by omega) (by omega) (by omega) (by omega)) B'.1.1
              have ov : ∀ (k : Nat) (i : Int), (i ≠ (D.length : Int) ∨ k < 91 ∨ 97 < k) → ¬ (k = 0 ∧ i = 98) → mI (uI (uI x1 94 (D.length : Int) qw) 95 (D.length : Int) qs) k i = mI v k i := fun k i a1 a2 => by
                rw [mI_uI, if_neg (by omega), mI_uI, if_neg (by omega)]; exact oc a1 a2
              refine put _ qw _ (D ++ [((3, row, col, 1), cOf w row col, cOf s row col, 0)]) fz (fun k i n1 n2 n3 => ov k i (by omega) n3) (fun i => ov 5 i (by omega) (by omega)) (ContM_g gz hqw) (CfLM_app gz (by rw [mI_uI, if_neg (by omega)]; exact q1') (fun kk i a1 a2 a3 => ov kk i (Or.inl a3) (by omega)) ?_ d) ?_ ?_
              · refine ⟨by rw [mI_uI, if_neg (by omega), mI_uI, if_neg (by omega)]; exact q2, by rw [mI_uI, if_neg (by omega), mI_uI, if_neg (by omega)]; exact q3, by rw [mI_uI, if_neg (by omega), mI_uI, if_neg (by omega)]; exact q4, by rw [mI_uI, if_neg (by omega), mI_uI, if_neg (by omega)]; exact q5, fun _ => ⟨?_, ?_⟩, by rw [mI_uI, if_neg (by omega), mI_uI, if_neg (by omega)]; exact q8⟩
                · rw [mI_uI, if_neg (by omega), mI_uI, if_pos ⟨rfl, rfl⟩]; exact ContM_g gz hqw
                · rw [mI_uI, if_pos ⟨rfl, rfl⟩]; exact ContM_g gz hqs
              · rw [List.drop_left, e0, ci_0 (fun g => g.elim g1 g2), ci_0 g3]
              · rw [List.drop_left]
      refine i_content bb mb' (by omega) (by omega) (fun kb qb qb0 hqb => ?_) (fun kb => ?_)
      · rw [if_pos qb0]; exact main qb hqb
      · rw [if_neg (by decide)]; exact main 0 (by rw [none0 kb]; rfl)
    · have fin : ∀ qb, F_X12_newCell_66 r c row col qw (-1) qb v P := fun qb => by
        unfold F_X12_newCell_66
        rw [if_pos qw0, if_pos (by decide)]
        exact stay qw _ hqw (by unfold clC; rw [if_pos ks])
      refine i_content bb mb' (by omega) (by omega) (fun kb qb qb0 hqb => ?_) (fun kb => ?_)
      · rw [if_pos qb0]; exact fin qb
      · rw [if_neg (by decide)]; exact fin 0
  · refine i_content bs ms' (by omega) (by omega) (fun ks qs qs0 hqs => ?_) (fun ks => ?_)
    · have fin : ∀ qb, F_X12_newCell_66 r c row col (-1) qs qb v P := fun qb => by
        unfold F_X12_newCell_66 F_X12_newCell_88
        rw [if_neg (by decide), if_pos qs0]
        exact stay qs _ hqs (by unfold clC; rw [if_neg (fun g => g ks), if_pos kw])
      refine i_content bb mb' (by omega) (by omega) (fun kb qb qb0 hqb => ?_) (fun kb => ?_)
      · rw [if_pos qb0]; exact fin qb
      · rw [if_neg (by decide)]; exact fin 0
    · have fin : ∀ qb, F_X12_newCell_66 r c row col (-1) (-1) qb v P := fun qb => by
        unfold F_X12_newCell_66 F_X12_newCell_88
        rw [if_neg (by decide), if_neg (by decide)]
        exact stay 0 none rfl (by unfold clC; rw [if_pos ks, none0 kw])
      refine i_content bb mb' (by omega) (by omega) (fun kb qb qb0 hqb => ?_) (fun kb => ?_)
      · rw [if_pos qb0]; exact fin qb
      · rw [if_neg (by decide)]; exact fin 0
/-- both put together: the reference -/
theorem i_together {u : Mu} {N : Int} {S : SS} {t y : Int} {s b : Sh} {P : Int → Mu → Prop} (hB : Bd S) (R : RM u N S) (B : CoB u) (bs : ShB s) (bb : ShB b) (dw : DsS S.2.2.2.1.1) (ds : DsS s) (ms : ShM u t s) (mb : ShM u y b) (ht : 0 ≤ t ∧ t < 40) (hy : 0 ≤ y ∧ y < 40) (hn : ¬ fitJ S.2.2.2.1.1 s b → ∀ x, FrN u x → P (-1) x) (h : fitJ S.2.2.2.1.1 s b → ∀ x, RM x N (setJ S S.2.2.1.2.2.1 s b) → FrM ((0, some 14) :: (0, some 16) :: (0, some 17) :: (0, some 65) :: wJm) u x → mI x 0 65 = 0 → P ((cfA S.2.2.2.1.1 s b).length : Int) x) (jn : 0 ≤ S.2.2.1.2.2.2.2.1 ∧ S.2.2.1.2.2.2.2.1 < 200) : F_X12_together t y u P := by
  obtain ⟨⟨n1, n2⟩, ht', hl, hb, hk, hq⟩ := id R
  have mw := hk.1
  have bw := hB.2.2.2.1.1
  generalize hw : S.2.2.2.1.1 = w at mw bw dw hn h
  unfold F_X12_together F_X12_together_20
  have m0 : mst 0 = 32 := rfl
  have m1 : mst 1 = 10 := rfl
  refine i_newLines B (Or.inl rfl) bw bs bb dw ds mw ms mb (by omega) (by omega) FrN_rf (fun nf x fx => ?_) (fun nf x fx lx _ => ?_)
  · rw [if_pos rfl]; exact hn (fun g => nf ⟨g.1.1, by have := g.1.2; omega⟩) x fx
  rw [if_neg (by decide)]
  refine i_newLines B (Or.inr rfl) bw bs bb dw ds mw ms mb (by omega) (by omega) fx (fun nf2 x2 fx2 => ?_) (fun nf2 x2 fx2 lx2 ox2 => ?_)
  · rw [if_pos rfl]; exact hn (fun g => nf2 ⟨g.2.1, by have := g.2.2; omega⟩) x2 fx2
  rw [if_neg (by decide)]
  have fit : fitJ w s b := ⟨⟨nf.1, by omega⟩, nf2.1, by omega⟩
  replace h := h fit
  clear hn
  have lx1 : Ln121 x2 0 (joinL w s b 0) := ox2 _ lx
  clear lx ox2
  rintro _ rfl
  have f3 : FrJ u (uI x2 0 98 0) := FrJ_w (FrN_J fx2) (wHas_i (by decide)) (by omega) (by omega) (by omega) (by omega)
  have l3 : ∀ a M, Ln121 x2 a M → Ln121 (uI x2 0 98 0) a M := fun a M hM => by
    refine ⟨?_, fun j j0 j1 => ?_⟩
    · rw [← hM.1]; unfold lnM; split <;> rw [mI_uI, if_neg (by omega)]
    · rw [← hM.2 j j0 j1]; unfold idM; split <;> rw [mI_uI, if_neg (by omega)]
  have d3 : CfLM (uI x2 0 98 0) [] := ⟨by rw [mI_uI, if_pos ⟨rfl, rfl⟩]; rfl, fun i hi => absurd hi (by show ¬ i < 0; omega)⟩
  have la := l3 _ _ lx1
  have lb := l3 _ _ lx2
  generalize uI x2 0 98 0 = x3 at f3 d3 la lb
  have c1 := cfL_n w s b 0 (joinL w s b 0) (joinL w s b 0).length 0
  have c2 := cfL_n w s b 1 (joinL w s b 1) (joinL w s b 1).length 0
  have fr := fit.1
  have fc := fit.2
  refine i_lineCf B (Or.inl rfl) bw bs bb mw ms mb (by omega) (by omega) f3 la nf.2 (by show 0 + _ ≤ 362; omega) d3 (fun x4 f4 o4 d4 => ?_)
  refine i_lineCf B (Or.inr rfl) bw bs bb mw ms mb (by omega) (by omega) f4 (o4 _ _ lb) nf2.2 (by rw [List.nil_append]; omega) d4 (fun x5 f5 o5 d5 => ?_)
  have lr := o5 _ _ (o4 _ _ la)
  have lc := o5 _ _ (o4 _ _ lb)
  clear la lb lx1 lx2 o4 o5 d4 f4 d3 f3 l3
  have nD : ([] ++ cfL w s b 0 (joinL w s b 0) (joinL w s b 0).length 0 ++ cfL w s b 1 (joinL w s b 1) (joinL w s b 1).length 0).length ≤ 42 := by rw [List.nil_append, List.length_append]; omega
  have hA : cfA w s b = ([] ++ cfL w s b 0 (joinL w s b 0) (joinL w s b 0).length 0 ++ cfL w s b 1 (joinL w s b 1) (joinL w s b 1).length 0) ++ gdL (cfJ w s b) ((joinL w s b 1).length : Int) (joinL w s b 0).length 0 := rfl
  have nA := cfA_n fit
  generalize ([] ++ cfL w s b 0 (joinL w s b 0) (joinL w s b 0).length 0 ++ cfL w s b 1 (joinL w s b 1) (joinL w s b 1).length 0) = D at d5 nD hA
  have g0 : gdK (cfJ w s b) ((joinL w s b 0).length : Int) ((joinL w s b 1).length : Int) 0 = gdL (cfJ w s b) ((joinL w s b 1).length : Int) (joinL w s b 0).length 0 := by
    rw [gdK_0 (by omega), Int.toNat_natCast]
  rw [← g0] at hA
  -- the cells of slot 121 below place k
  unfold F_X12_together_43
  refine lp_I (S := Int × Mu) (fun q => (0 ≤ q.1 ∧ q.1 ≤ 320) ∧ FrJ u q.2 ∧ Ln121 q.2 0 (joinL w s b 0) ∧ Ln121 q.2 1 (joinL w s b 1) ∧ (∀ r c, 0 ≤ r → r < ((joinL w s b 0).length : Int) → 0 ≤ c → c < ((joinL w s b 1).length : Int) → 10 * r + c < q.1 → ContM q.2 (mI q.2 5 (38720 + 10 * r + c)) (clC w s b (gI (joinL w s b 0) r) (gI (joinL w s b 1) c)).1) ∧ ∃ E, CfLM q.2 E ∧ E ++ gdK (cfJ w s b) ((joinL w s b 0).length : Int) ((joinL w s b 1).length : Int) q.1 = cfA w s b ∧ (E.length : Int) ≤ 42 + q.1) (fun q => (320 - q.1).toNat) ?_ (0, x5) ⟨⟨by show (0 : Int) ≤ 0; decide, by show (0 : Int) ≤ 320; decide⟩, f5, lr, lc, fun r c r0 r1 e0 e1 g => by replace g : 10 * r + c < 0 := g; omega, D, d5, hA.symm, by show (D.length : Int) ≤ 42 + 0; omega⟩
  rintro G ⟨k, x⟩ ⟨⟨k0, k1⟩, fx, kr, kc, cells, E, dE, eE, nE⟩ ih
  simp only at k0 k1 fx kr kc cells dE eE nE
  unfold L_X12_together_43 F_X12_together_103
  dsimp only
  by_cases ek : 320 ≤ k
  · rw [if_pos ek]
    have gk : gdK (cfJ w s b) ((joinL w s b 0).length : Int) ((joinL w s b 1).length : Int) k = [] := by unfold gdK; rw [if_neg (by omega)]
    rw [gk, List.append_nil] at eE
    rw [eE] at dE
    show F_X12_copySheet 121 40 x _
    refine i_copySheet (by decide) (by decide) (by decide) (by decide) (i_forgetSteps ?_)
    have e14 : mI (uI (uI (cpF x 121 40) 0 16 0) 0 17 0) 0 14 = S.2.2.1.2.2.2.2.1 := by
      rw [mI_uI, if_neg (by omega), mI_uI, if_neg (by omega), mF0 (Or.inl rfl) (by omega), mE fx.1 (R := [(0, some 14)]) (by decide) (wHas_i (by decide))]
      exact hb.2.2.2.2.1
    rw [e14, w32e (by omega) (by omega)]
    rintro _ rfl
    have fC : FrM ((0, some 14) :: (0, some 16) :: (0, some 17) :: (0, some 65) :: wJm) u (cpF x 121 40) := FrM_cpF (FrM_sub fx.1 (by decide)) (by decide) (by decide)
    have fY := FrM_uI (x := S.2.2.1.2.2.2.2.1 + 1) (FrM_uI (x := 0) (FrM_uI (x := 0) fC (wHas_i (k := 0) (i := 16) (by decide))) (wHas_i (k := 0) (i := 17) (by decide))) (wHas_i (k := 0) (i := 14) (by decide))
    have p : ∀ i, i ≠ 65 → i ≠ 14 → i ≠ 16 → i ≠ 17 → mI (uI (uI (uI (cpF x 121 40) 0 16 0) 0 17 0) 0 14 (S.2.2.1.2.2.2.2.1 + 1)) 0 i = mI x 0 i := fun i a1 a2 a3 a4 => by rw [mI_uI, if_neg (by omega), mI_uI, if_neg (by omega), mI_uI, if_neg (by omega), mF0 (Or.inl rfl) (by omega)]
    have p14 : mI (uI (uI (uI (cpF x 121 40) 0 16 0) 0 17 0) 0 14 (S.2.2.1.2.2.2.2.1 + 1)) 0 14 = S.2.2.1.2.2.2.2.1 + 1 := by rw [mI_uI, if_pos ⟨rfl, rfl⟩]
    have p16 : mI (uI (uI (uI (cpF x 121 40) 0 16 0) 0 17 0) 0 14 (S.2.2.1.2.2.2.2.1 + 1)) 0 16 = 0 := by rw [mI_uI, if_neg (by omega), mI_uI, if_neg (by omega), mI_uI, if_pos ⟨rfl, rfl⟩]
    have p17 : mI (uI (uI (uI (cpF x 121 40) 0 16 0) 0 17 0) 0 14 (S.2.2.1.2.2.2.2.1 + 1)) 0 17 = 0 := by rw [mI_uI, if_neg (by omega), mI_uI, if_pos ⟨rfl, rfl⟩]
    have s1 : ∀ a, a ≠ 40 → SlM x (uI (uI (uI (cpF x 121 40) 0 16 0) 0 17 0) 0 14 (S.2.2.1.2.2.2.2.1 + 1)) a a := fun a ha => SlM_65 (SlM_65 (SlM_65 (SlM_fo ha)))
    have s2 : SlM x (uI (uI (uI (cpF x 121 40) 0 16 0) 0 17 0) 0 14 (S.2.2.1.2.2.2.2.1 + 1)) 121 40 := SlM_65 (SlM_65 (SlM_65 SlM_f))
    have fxy : FrM [(1, none), (2, none), (3, none), (4, none), (5, none), (0, some 65), (0, some 16), (0, some 17), (0, some 14)] x (uI (uI (uI (cpF x 121 40) 0 16 0) 0 17 0) 0 14 (S.2.2.1.2.2.2.2.1 + 1)) := FrM_uI (FrM_uI (FrM_uI (FrM_cpF FrM_rf (by decide) (by decide)) (wHas_i (by decide))) (wHas_i (by decide))) (wHas_i (by decide))
    have y65 : mI (uI (uI (uI (cpF x 121 40) 0 16 0) 0 17 0) 0 14 (S.2.2.1.2.2.2.2.1 + 1)) 0 65 = 0 := by rw [mI_uI, if_neg (by omega), mI_uI, if_neg (by omega), mI_uI, if_neg (by omega)]; exact cpF_65
    generalize uI (uI (uI (cpF x 121 40) 0 16 0) 0 17 0) 0 14 (S.2.2.1.2.2.2.2.1 + 1) = yy at fY p p14 p16 p17 s1 s2 fxy y65
    have g := Grw_fr n1.1 fY (by decide)
    have gx := Grw_fr (FrJ_B fx B).1.1 fxy (by decide)
    have e19 := mE fY (R := rgC) (by decide) (k := 0) (i := 19) (wHas_i (by decide))
    have e24 := mE fY (R := rgC) (by decide) (k := 0) (i := 24) (wHas_i (by decide))
    have e98 : mI yy 0 98 = ((cfA w s b).length : Int) := (p 98 (by decide) (by decide) (by decide) (by decide)).trans dE.1
    rw [e98]
    have hB40 := hB.2.1.1
    refine h yy ⟨by rw [e19, e24]; exact ⟨n1, n2⟩, RMt_fr fY (by decide) ht', RMl_fr fY (by decide) (fun k a c => (hB.2.1.2 k a c).1) g (fun k a c => ?_) hl, ?_, ?_, ?_⟩ fY y65
    · have c' : k < S.2.1.1 := c
      exact SlM_tr (fx.2 k a (by omega)) (s1 k (by omega))
    · obtain ⟨q1, q2, q3, q4, q5, q6⟩ := hb
      have m0' : ∀ i, wHas [(0, some 12), (0, some 13), (0, some 25), (0, some 6), (0, some 7)] 0 i → mI yy 0 i = mI u 0 i := fun i hi => mE fY (R := [(0, some 12), (0, some 13), (0, some 25), (0, some 6), (0, some 7)]) (by decide) hi
      exact ⟨fun k a c => (mE fY (R := [(11, none)]) (by decide) (wHas_a (by decide))).trans (q1 k a c), (m0' 12 (wHas_i (by decide))).trans q2, (m0' 13 (wHas_i (by decide))).trans q3, (m0' 25 (wHas_i (by decide))).trans q4, p14, (m0' 6 (wHas_i (by decide))).trans q6.1, (m0' 7 (wHas_i (by decide))).trans q6.2⟩
    · refine ⟨?_, ⟨p16, p17, ?_⟩, fun k a c => absurd c (by show ¬ k < 0; omega), fun k a c => absurd c (by show ¬ k < 0; omega)⟩
      · show ShM yy 40 (jSh S.2.2.2.1.1 s b)
        rw [hw]
        refine ShM_s (u := x) (s := 121) ⟨⟨by show 1 ≤ ((joinL w s b 0).length : Int); omega, by show ((joinL w s b 0).length : Int) ≤ 32; omega⟩, by show 1 ≤ ((joinL w s b 1).length : Int); omega, by show ((joinL w s b 1).length : Int) ≤ 10; omega⟩ gx s2 ⟨⟨kr.1, kc.1⟩, kr.2, kc.2, fun r c r0 r1 e0 e1 => ?_⟩
        exact cells r c r0 r1 e0 e1 (by replace r1 : r < ((joinL w s b 0).length : Int) := r1; replace e1 : c < ((joinL w s b 1).length : Int) := e1; omega)
      · rw [mE fY (R := [(0, some 15)]) (by decide) (wHas_i (by decide))]; exact hk.2.1.2.2
    · show RMq yy (((cfA S.2.2.2.1.1 s b).length : Int), (fun k => (cfA S.2.2.2.1.1 s b).getD k.toNat cf0), S.2.2.2.2.2.2)
      rw [hw]
      obtain ⟨-, q3, q4⟩ := hq
      refine ⟨⟨e98, fun k a c => ?_⟩, ?_, fun k a c => ?_⟩
      · have c' : k < ((cfA w s b).length : Int) := c
        have := dE.2 k.toNat (by omega)
        rw [Int.toNat_of_nonneg a] at this
        exact CfM_o gx (fun kk a1 a2 => fxy.1 kk k (by
          rintro ⟨t, ht, t1, -⟩
          simp only [List.mem_cons, List.mem_nil_iff, or_false] at ht
          rcases ht with rfl | rfl | rfl | rfl | rfl | rfl | rfl | rfl | rfl <;> (replace t1 := t1; simp only at t1; omega))) this
      · rw [mE fY (R := [(0, some 104)]) (by decide) (wHas_i (by decide))]; exact q3
      · rw [mE fY (R := [(101, none)]) (by decide) (k := 101) (wHas_a (by decide)), mE fY (R := [(102, none)]) (by decide) (k := 102) (wHas_a (by decide)), mE fY (R := [(103, none)]) (by decide) (k := 103) (wHas_a (by decide))]; exact q4 k a c
  · rw [if_neg ek, w32e (x := 38720 + k) (by omega) (by omega), tdivE k0, tmodE k0, w32e (x := k / 10) (by omega) (by omega), w32e (x := k % 10) (by omega) (by omega), w32e (x := k + 1) (by omega) (by omega)]
    refine ⟨by omega, by omega, ?_⟩
    rintro _ rfl
    have fz : FrJ u (uI x 5 (38720 + k) 0) := FrJ_w fx (wHas_a (by decide)) (by omega) (by omega) (by omega) (by omega)
    have gz : Grw x (uI x 5 (38720 + k) 0) := FrJ_g (FrJ_w FrJ_rf (wHas_a (by decide)) (by omega) (by omega) (by omega) (by omega)) (FrJ_B fx B).1.1
    have kr' : Ln121 (uI x 5 (38720 + k) 0) 0 (joinL w s b 0) := ⟨by rw [← kr.1]; unfold lnM; rw [if_pos rfl, if_pos rfl, mI_uI, if_neg (by omega)], fun j j0 j1 => by rw [← kr.2 j j0 j1]; unfold idM; rw [if_pos rfl, if_pos rfl, mI_uI, if_neg (by omega)]⟩
    have kc' : Ln121 (uI x 5 (38720 + k) 0) 1 (joinL w s b 1) := ⟨by rw [← kc.1]; unfold lnM; rw [if_neg (by decide), if_neg (by decide), mI_uI, if_neg (by omega)], fun j j0 j1 => by rw [← kc.2 j j0 j1]; unfold idM; rw [if_neg (by decide), if_neg (by decide), mI_uI, if_neg (by omega)]⟩
    have cells' : ∀ r c, 0 ≤ r → r < ((joinL w s b 0).length : Int) → 0 ≤ c → c < ((joinL w s b 1).length : Int) → 10 * r + c < k → ContM (uI x 5 (38720 + k) 0) (mI (uI x 5 (38720 + k) 0) 5 (38720 + 10 * r + c)) (clC w s b (gI (joinL w s b 0) r) (gI (joinL w s b 1) c)).1 := fun r c r0 r1 e0 e1 g => by rw [mI_uI, if_neg (by omega)]; exact ContM_g gz (cells r c r0 r1 e0 e1 g)
    have dE' : CfLM (uI x 5 (38720 + k) 0) E := ⟨by rw [mI_uI, if_neg (by omega)]; exact dE.1, fun i hi => CfM_o gz (fun kk a1 a2 => by rw [mI_uI, if_neg (by omega)]) (dE.2 i hi)⟩
    have r1e : mI (uI x 5 (38720 + k) 0) 1 121 = ((joinL w s b 0).length : Int) := kr'.1
    have r2e : mI (uI x 5 (38720 + k) 0) 2 121 = ((joinL w s b 1).length : Int) := kc'.1
    rw [r1e, r2e]
    rw [gdK_s (by omega), ← List.append_assoc] at eE
    generalize uI x 5 (38720 + k) 0 = v at fz kr' kc' cells' dE'
    have skip : ¬ (k / 10 < ((joinL w s b 0).length : Int) ∧ k % 10 < ((joinL w s b 1).length : Int)) → G (k + 1, v) := fun g => by
      rw [if_neg g, List.append_nil] at eE
      refine ih (k + 1, v) ⟨⟨by show 0 ≤ k + 1; omega, by show k + 1 ≤ 320; omega⟩, fz, kr', kc', fun r c r0 r1 e0 e1 g2 => ?_, E, dE', eE, by show (E.length : Int) ≤ 42 + (k + 1); omega⟩ (by show (320 - (k + 1)).toNat < (320 - k).toNat; omega)
      replace g2 : 10 * r + c < k + 1 := g2
      by_cases er : 10 * r + c = k
      · exact absurd ⟨by omega, by omega⟩ g
      · exact cells' r c r0 r1 e0 e1 (by omega)
    by_cases q1 : ((joinL w s b 0).length : Int) ≤ k / 10
    · rw [if_pos q1]; exact skip (by omega)
    rw [if_neg q1]
    by_cases q2 : ((joinL w s b 1).length : Int) ≤ k % 10
    · rw [if_pos q2]; exact skip (by omega)
    rw [if_neg q2]
    rw [if_pos ⟨by omega, by omega⟩] at eE
    refine i_newCell (row := gI (joinL w s b 0) (k / 10)) (col := gI (joinL w s b 1) (k % 10)) (D := E) B bw bs bb mw ms mb (by omega) (by omega) (by omega) (by omega) fz (kr'.2 _ (by omega) (by omega)) (kc'.2 _ (by omega) (by omega)) (by omega) dE' (fun x' fx' ox' o5' hc' dc' => ?_)
    have cn := clC_n w s b (gI (joinL w s b 0) (k / 10)) (gI (joinL w s b 1) (k % 10))
    have gg := FrJ_gg fz fx' B.1.1
    refine ih (k + 1, x') ⟨⟨by show 0 ≤ k + 1; omega, by show k + 1 ≤ 320; omega⟩, fx', ?_, ?_, fun r c r0 r1 e0 e1 g2 => ?_, _, dc', eE, by show (((E ++ _).length : Nat) : Int) ≤ 42 + (k + 1); rw [List.length_append]; omega⟩ (by show (320 - (k + 1)).toNat < (320 - k).toNat; omega)
    · refine ⟨by rw [← kr'.1]; unfold lnM; rw [if_pos rfl, if_pos rfl]; exact ox' 1 121 (by decide) (by omega) (by omega), fun j j0 j1 => by rw [← kr'.2 j j0 j1]; unfold idM; rw [if_pos rfl, if_pos rfl]; exact ox' 3 _ (by decide) (by omega) (by omega)⟩
    · refine ⟨by rw [← kc'.1]; unfold lnM; rw [if_neg (by decide), if_neg (by decide)]; exact ox' 2 121 (by decide) (by omega) (by omega), fun j j0 j1 => by rw [← kc'.2 j j0 j1]; unfold idM; rw [if_neg (by decide), if_neg (by decide)]; exact ox' 4 _ (by decide) (by omega) (by omega)⟩
    · replace g2 : 10 * r + c < k + 1 := g2
      show ContM x' (mI x' 5 (38720 + 10 * r + c)) _
      by_cases er : 10 * r + c = k
      · have a1 : r = k / 10 := by omega
        have a2 : c = k % 10 := by omega
        rw [a1, a2]; exact hc'
      · rw [o5' _ (by omega)]
        exact ContM_g gg (cells' r c r0 r1 e0 e1 (by omega))
