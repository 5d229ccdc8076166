/-! ===== diff ===== -/
abbrev D3 : Type := Int × Int × Int
/-- the lines that s has alone -/
def lone (s t : Sh) (ax num : Int) : Nat → Int → List D3
  | 0, _ => []
  | m + 1, k => (if plS t ax (idS s ax k) < 0 then [(num, (if ax = 0 then k + 1 else 0), (if ax = 0 then 0 else k + 1))] else []) ++ lone s t ax num m (k + 1)
noncomputable def cellE (s t : Sh) (r c : Int) : List D3 := ci (knowsP s (t.2.1 r) (t.2.2.1 c) ∧ cOf s (t.2.1 r) (t.2.2.1 c) ≠ t.2.2.2 r c) [(7, r + 1, c + 1)] []
noncomputable def cellR (s t : Sh) (r : Int) : Nat → Int → List D3
  | 0, _ => []
  | m + 1, c => cellE s t r c ++ cellR s t r m (c + 1)
noncomputable def cellL (s t : Sh) : Nat → Int → List D3
  | 0, _ => []
  | m + 1, r => cellR s t r t.1.2.toNat 0 ++ cellL s t m (r + 1)
def lon (s t : Sh) (ax num : Int) : List D3 := lone s t ax num (lnS s ax).toNat 0
noncomputable def dOrd (s t : Sh) (ax : Int) : List D3 := ci (ordP s t t ax) [] [(5 + ax, 0, 0)]
noncomputable def diffL (s t : Sh) : List D3 := ((((((([] ++ lon s t 0 1) ++ lon t s 0 2) ++ lon s t 1 3) ++ lon t s 1 4) ++ dOrd s t 0) ++ dOrd s t 1) ++ cellL s t t.1.1.toNat 0)
theorem lone_n (s t : Sh) (ax num : Int) : ∀ (m : Nat) (k : Int), (lone s t ax num m k).length ≤ m
  | 0, _ => by rw [lone]; exact Nat.le_refl _
  | m + 1, k => by
    have := lone_n s t ax num m (k + 1)
    rw [lone, List.length_append]
    split
    · simp only [List.length_cons, List.length_nil]; omega
    · simp only [List.length_nil]; omega
theorem cellE_n (s t : Sh) (r c : Int) : (cellE s t r c).length ≤ 1 := by
  unfold cellE ci
  split
  · exact Nat.le_refl _
  · exact Nat.zero_le _
theorem cellR_n (s t : Sh) (r : Int) : ∀ (m : Nat) (c : Int), (cellR s t r m c).length ≤ m
  | 0, _ => by rw [cellR]; exact Nat.le_refl _
  | m + 1, c => by
    have := cellR_n s t r m (c + 1)
    have := cellE_n s t r c
    rw [cellR, List.length_append]; omega
theorem cellL_n (s t : Sh) (hc : t.1.2 ≤ 10) : ∀ (m : Nat) (r : Int), (cellL s t m r).length ≤ 10 * m
  | 0, _ => by rw [cellL]; exact Nat.le_refl _
  | m + 1, r => by
    have := cellL_n s t hc m (r + 1)
    have := cellR_n s t r t.1.2.toNat 0
    rw [cellL, List.length_append]; omega
theorem dOrd_n (s t : Sh) (ax : Int) : (dOrd s t ax).length ≤ 1 := by
  unfold dOrd ci
  split
  · exact Nat.zero_le _
  · exact Nat.le_refl _
theorem lon_n {s : Sh} (hb : ShB s) (t : Sh) (num : Int) : (lon s t 0 num).length ≤ 32 ∧ (lon s t 1 num).length ≤ 10 := by
  have h1 := lone_n s t 0 num (lnS s 0).toNat 0
  have h2 := lone_n s t 1 num (lnS s 1).toNat 0
  have h3 := (lnS_b hb 0).2
  have h4 := (lnS_b hb 1).2
  have : mst 0 = 32 := rfl
  have : mst 1 = 10 := rfl
  unfold lon; omega
def setD (S : SS) (L : List D3) : SS := (S.1, S.2.1, S.2.2.1, S.2.2.2.1, (S.2.2.2.2.1, S.2.2.2.2.2.1, (L.length : Int), fun k => L.getD k.toNat (0, 0, 0)))
noncomputable def pDiff (v w : Int) (S : SS) : Nat × Int × SS := if isShP v S ∧ isShP w S then (0, ((diffL (shOf v S) (shOf w S)).length : Int), setD S (diffL (shOf v S) (shOf w S))) else (1, 0, S)
theorem gD_app {D : List D3} {e : D3} {i : Nat} (hi : i < D.length + 1) : (D ++ [e]).getD i (0, 0, 0) = if i = D.length then e else D.getD i (0, 0, 0) := by
  rw [List.getD_eq_getElem?_getD, List.getD_eq_getElem?_getD]
  by_cases c : i = D.length
  · rw [if_pos c, c, List.getElem?_append_right (Nat.le_refl _)]; simp
  · rw [if_neg c, List.getElem?_append_left (by omega)]
/-! the reference's -/
def wDf : WR := [(101, none), (102, none), (103, none), (0, some 104)]
def DfM (u : Mu) (D : List D3) : Prop := mI u 0 104 = (D.length : Int) ∧ ∀ i : Nat, i < D.length → mI u 101 i = (D.getD i (0, 0, 0)).1 ∧ mI u 102 i = (D.getD i (0, 0, 0)).2.1 ∧ mI u 103 i = (D.getD i (0, 0, 0)).2.2
theorem i_differ {u v : Mu} {D : List D3} {n r c : Int} {P : Mu → Prop} (f : FrM wDf u v) (d : DfM v D) (hl : D.length < 410) (h : ∀ w, FrM wDf u w → DfM w (D ++ [(n, r, c)]) → P w) : F_X12_differ n r c v P := by
  obtain ⟨d1, d2⟩ := d
  unfold F_X12_differ
  rw [d1]
  refine ⟨by omega, by omega, ?_⟩
  rintro _ rfl
  have e1 : mI (uI v 101 (D.length : Int) n) 0 104 = (D.length : Int) := by rw [mI_uI, if_neg (by omega)]; exact d1
  rw [e1]
  refine ⟨by omega, by omega, ?_⟩
  rintro _ rfl
  have e2 : mI (uI (uI v 101 (D.length : Int) n) 102 (D.length : Int) r) 0 104 = (D.length : Int) := by rw [mI_uI, if_neg (by omega)]; exact e1
  rw [e2]
  refine ⟨by omega, by omega, ?_⟩
  rintro _ rfl
  have e3 : mI (uI (uI (uI v 101 (D.length : Int) n) 102 (D.length : Int) r) 103 (D.length : Int) c) 0 104 = (D.length : Int) := by rw [mI_uI, if_neg (by omega)]; exact e2
  rw [e3, w32e (by omega) (by omega)]
  rintro _ rfl
  refine h _ (FrM_uI (FrM_uI (FrM_uI (FrM_uI f (wHas_a (by decide))) (wHas_a (by decide))) (wHas_a (by decide))) (wHas_i (by decide))) ⟨?_, fun i hi => ?_⟩
  · rw [mI_uI, if_pos ⟨rfl, rfl⟩, List.length_append]; rfl
  · rw [List.length_append] at hi
    rw [gD_app (by simpa using hi)]
    have d2i := d2 i
    by_cases ci : i = D.length
    · rw [if_pos ci, ci]
      refine ⟨?_, ?_, ?_⟩
      · rw [mI_uI, if_neg (by omega), mI_uI, if_neg (by omega), mI_uI, if_neg (by omega), mI_uI, if_pos ⟨rfl, rfl⟩]
      · rw [mI_uI, if_neg (by omega), mI_uI, if_neg (by omega), mI_uI, if_pos ⟨rfl, rfl⟩]
      · rw [mI_uI, if_neg (by omega), mI_uI, if_pos ⟨rfl, rfl⟩]
    · rw [if_neg ci]
      have hi2 : i < D.length := by simp only [List.length_cons, List.length_nil] at hi; omega
      obtain ⟨g1, g2, g3⟩ := d2i hi2
      refine ⟨?_, ?_, ?_⟩
      · rw [mI_uI, if_neg (by omega), mI_uI, if_neg (by omega), mI_uI, if_neg (by omega), mI_uI, if_neg (by omega)]; exact g1
      · rw [mI_uI, if_neg (by omega), mI_uI, if_neg (by omega), mI_uI, if_neg (by omega), mI_uI, if_neg (by omega)]; exact g2
      · rw [mI_uI, if_neg (by omega), mI_uI, if_neg (by omega), mI_uI, if_neg (by omega), mI_uI, if_neg (by omega)]; exact g3
theorem ShM_d {u v : Mu} {s : Int} {h : Sh} (f : FrM wDf u v) (h0 : 0 ≤ mI u 0 19) (hb : ShB h) (m : ShM u s h) : ShM v s h := ShM_s hb (Grw_fr h0 f (by decide)) (SlM_fr f (by decide)) m
theorem CoB_d {u v : Mu} (f : FrM wDf u v) (B : CoB u) : CoB v := by
  unfold CoB
  rw [mE f (R := rgC) (by decide) (k := 0) (i := 19) (wHas_i (by decide)), mE f (R := rgC) (by decide) (k := 0) (i := 24) (wHas_i (by decide)), mE f (R := rgC) (by decide) (k := 0) (i := 25) (wHas_i (by decide))]
  exact B
theorem i_lone {u v : Mu} {x y ax num : Int} {s t : Sh} {D : List D3} {P : Mu → Prop} (h0 : 0 ≤ mI u 0 19) (bs : ShB s) (bt : ShB t) (ms : ShM u x s) (mt : ShM u y t) (hx : 0 ≤ x ∧ x < 122) (hy : 0 ≤ y ∧ y < 122) (f : FrM wDf u v) (d : DfM v D) (hl : (D.length : Int) + lnS s ax ≤ 406) (h : ∀ w, FrM wDf u w → DfM w (D ++ lon s t ax num) → P w) : F_X12_linesAlone x y ax num v P := by
  have ls := lnS_b bs ax
  have m32 := mst_32 ax
  unfold F_X12_linesAlone F_X12_linesAlone_3
  refine lp_I (fun q => (0 ≤ q.1 ∧ q.1 ≤ lnS s ax) ∧ FrM wDf u q.2 ∧ ∃ E, DfM q.2 E ∧ E ++ lone s t ax num (lnS s ax - q.1).toNat q.1 = D ++ lon s t ax num ∧ (E.length : Int) ≤ D.length + q.1) (fun q => (lnS s ax - q.1).toNat) ?_ (0, v) ⟨⟨by show (0 : Int) ≤ 0; decide, by show (0 : Int) ≤ _; omega⟩, f, D, d, by unfold lon; show D ++ lone s t ax num (lnS s ax - 0).toNat 0 = _; rw [Int.sub_zero], by show (D.length : Int) ≤ D.length + 0; omega⟩
  rintro G ⟨k, w⟩ ⟨⟨k0, k1⟩, fw, E, dE, eE, lE⟩ ih
  simp only at k0 k1 fw dE eE lE
  unfold L_X12_linesAlone_3 F_X12_linesAlone_46 F_X12_linesAlone_58 F_X12_linesAlone_61
  dsimp only
  have ms' := ShM_d fw h0 bs ms
  have mt' := ShM_d fw h0 bt mt
  refine i_linesOf hx.1 hx.2 ?_
  rw [ShM_ln ms' ax]
  by_cases ek : lnS s ax ≤ k
  · rw [if_pos ek]
    rw [show (lnS s ax - k).toNat = 0 by omega, lone, List.append_nil] at eE
    exact h w fw (eE ▸ dE)
  · rw [if_neg ek, w32e (x := k + 1) (by omega) (by omega)]
    rw [show (lnS s ax - k).toNat = (lnS s ax - (k + 1)).toNat + 1 by omega, lone, ← List.append_assoc] at eE
    refine i_lineAt hx.1 hx.2 k0 (by omega) ?_
    rw [ShM_id ms' ax k k0 (by omega)]
    refine i_placeS bt mt' hy.1 hy.2 ?_
    by_cases e1 : 0 ≤ plS t ax (idS s ax k)
    · rw [if_pos e1]
      rw [if_neg (by omega), List.append_nil] at eE
      exact ih (k + 1, w) ⟨⟨by show 0 ≤ k + 1; omega, by show k + 1 ≤ _; omega⟩, fw, E, dE, eE, by show (E.length : Int) ≤ D.length + (k + 1); omega⟩ (by show (_ - (k + 1)).toNat < (_ - k).toNat; omega)
    · rw [if_neg e1]
      rw [if_pos (by omega)] at eE
      have fin : ∀ w', FrM wDf u w' → DfM w' (E ++ [(num, (if ax = 0 then k + 1 else 0), (if ax = 0 then 0 else k + 1))]) → G (k + 1, w') := fun w' fw' dw' => ih (k + 1, w') ⟨⟨by show 0 ≤ k + 1; omega, by show k + 1 ≤ _; omega⟩, fw', _, dw', eE, by show (((E ++ _).length : Nat) : Int) ≤ D.length + (k + 1); rw [List.length_append]; simp only [List.length_cons, List.length_nil]; omega⟩ (by show (_ - (k + 1)).toNat < (_ - k).toNat; omega)
      by_cases ea : ax = 0
      · rw [if_pos ea, if_pos ea]
        rw [if_pos ea, if_pos ea] at fin
        exact i_differ fw dE (by omega) fin
      · rw [if_neg ea, if_neg ea]
        rw [if_neg ea, if_neg ea] at fin
        exact i_differ fw dE (by omega) fin
/-- the cells from place k on, row by row of ten -/
noncomputable def restC (s t : Sh) (k : Int) : List D3 := if k / 10 < t.1.1 then cellR s t (k / 10) (t.1.2 - k % 10).toNat (k % 10) ++ cellL s t (t.1.1 - k / 10 - 1).toNat (k / 10 + 1) else []
theorem restC_s {s t : Sh} {k : Int} (hb : ShB t) (k0 : 0 ≤ k) : restC s t k = (if k / 10 < t.1.1 ∧ k % 10 < t.1.2 then cellE s t (k / 10) (k % 10) else []) ++ restC s t (k + 1) := by
  have b1 := hb.1
  have b2 := hb.2
  unfold restC
  by_cases e1 : k / 10 < t.1.1
  · rw [if_pos e1]
    by_cases e2 : k % 10 < t.1.2
    · rw [if_pos ⟨e1, e2⟩, show (t.1.2 - k % 10).toNat = (t.1.2 - (k % 10 + 1)).toNat + 1 by omega, cellR, List.append_assoc]
      congr 1
      by_cases e3 : k % 10 = 9
      · rw [show (k + 1) / 10 = k / 10 + 1 by omega, show (k + 1) % 10 = 0 by omega, show (t.1.2 - (k % 10 + 1)).toNat = 0 by omega, cellR, List.nil_append]
        by_cases e4 : k / 10 + 1 < t.1.1
        · rw [if_pos e4, show (t.1.1 - k / 10 - 1).toNat = (t.1.1 - (k / 10 + 1) - 1).toNat + 1 by omega, cellL, Int.sub_zero]
        · rw [if_neg e4, show (t.1.1 - k / 10 - 1).toNat = 0 by omega, cellL]
      · rw [show (k + 1) / 10 = k / 10 by omega, show (k + 1) % 10 = k % 10 + 1 by omega, if_pos e1]
    · rw [if_neg (fun w => e2 w.2), List.nil_append, show (t.1.2 - k % 10).toNat = 0 by omega, cellR, List.nil_append]
      by_cases e3 : k % 10 = 9
      · rw [show (k + 1) / 10 = k / 10 + 1 by omega, show (k + 1) % 10 = 0 by omega]
        by_cases e4 : k / 10 + 1 < t.1.1
        · rw [if_pos e4, show (t.1.1 - k / 10 - 1).toNat = (t.1.1 - (k / 10 + 1) - 1).toNat + 1 by omega, cellL, Int.sub_zero]
        · rw [if_neg e4, show (t.1.1 - k / 10 - 1).toNat = 0 by omega, cellL]
      · rw [show (k + 1) / 10 = k / 10 by omega, show (k + 1) % 10 = k % 10 + 1 by omega, if_pos e1, show (t.1.2 - (k % 10 + 1)).toNat = 0 by omega, cellR, List.nil_append]
  · rw [if_neg e1, if_neg (fun w => e1 w.1), if_neg (by omega)]; rfl
theorem i_cells {u v : Mu} {x y : Int} {s t : Sh} {D : List D3} {P : Int → Mu → Prop} (B : CoB u) (bs : ShB s) (bt : ShB t) (ms : ShM u x s) (mt : ShM u y t) (hx : 0 ≤ x ∧ x < 122) (hy : 0 ≤ y ∧ y < 122) (f : FrM wDf u v) (d : DfM v D) (hl : D.length ≤ 86) (h : ∀ w, FrM wDf u w → DfM w (D ++ cellL s t t.1.1.toNat 0) → P ((D ++ cellL s t t.1.1.toNat 0).length : Int) w) : F_X12_diff_130 x y 0 v P := by
  have b1 := bt.1
  have b2 := bt.2
  have e0 : restC s t 0 = cellL s t t.1.1.toNat 0 := by
    unfold restC
    rw [show (0 : Int) / 10 = 0 by decide, show (0 : Int) % 10 = 0 by decide, if_pos (by omega), Int.sub_zero, Int.sub_zero]
    obtain ⟨m, hm⟩ : ∃ m, t.1.1.toNat = m + 1 := ⟨t.1.1.toNat - 1, by omega⟩
    rw [hm, cellL, show (t.1.1 - 1).toNat = m by omega]
  unfold F_X12_diff_130
  refine lp_I (fun q => (0 ≤ q.1 ∧ q.1 ≤ 320) ∧ FrM wDf u q.2 ∧ ∃ E, DfM q.2 E ∧ E ++ restC s t q.1 = D ++ cellL s t t.1.1.toNat 0 ∧ (E.length : Int) ≤ D.length + q.1) (fun q => (320 - q.1).toNat) ?_ (0, v) ⟨⟨by show (0 : Int) ≤ 0; decide, by show (0 : Int) ≤ 320; decide⟩, f, D, d, by rw [← e0], by show (D.length : Int) ≤ D.length + 0; omega⟩
  rintro G ⟨k, w⟩ ⟨⟨k0, k1⟩, fw, E, dE, eE, lE⟩ ih
  simp only at k0 k1 fw dE eE lE
  unfold L_X12_diff_130 F_X12_diff_243
  dsimp only
  by_cases ek : 320 ≤ k
  · rw [if_pos ek]
    have : restC s t k = [] := by unfold restC; rw [if_neg (by omega)]
    rw [this, List.append_nil] at eE
    show P (mI w 0 104) w
    rw [dE.1, eE]
    exact h w fw (eE ▸ dE)
  · rw [if_neg ek, tdivE k0, tmodE k0, w32e (x := k / 10) (by omega) (by omega), w32e (x := k % 10) (by omega) (by omega), w32e (x := k + 1) (by omega) (by omega)]
    have ms' := ShM_d fw B.1.1 bs ms
    have mt' := ShM_d fw B.1.1 bt mt
    rw [restC_s bt k0, ← List.append_assoc] at eE
    refine ⟨hy.1, hy.2, ?_⟩
    rw [mt'.1.1, mt'.1.2]
    have same : (if k / 10 < t.1.1 ∧ k % 10 < t.1.2 then cellE s t (k / 10) (k % 10) else []) = [] → G (k + 1, w) := fun e => by
      rw [e, List.append_nil] at eE
      exact ih (k + 1, w) ⟨⟨by show 0 ≤ k + 1; omega, by show k + 1 ≤ 320; omega⟩, fw, E, dE, eE, by show (E.length : Int) ≤ D.length + (k + 1); omega⟩ (by show (320 - (k + 1)).toNat < (320 - k).toNat; omega)
    by_cases e1 : t.1.1 ≤ k / 10
    · rw [if_pos e1]; exact same (if_neg (by omega))
    · rw [if_neg e1]
      refine ⟨hy.1, hy.2, ?_⟩
      by_cases e2 : t.1.2 ≤ k % 10
      · rw [if_pos e2]; exact same (if_neg (by omega))
      · rw [if_neg e2]
        rw [if_pos ⟨by omega, by omega⟩] at same eE
        refine i_lineAt hy.1 hy.2 (by omega) (by show k / 10 < 32; omega) ?_
        refine i_lineAt hy.1 hy.2 (by omega) (by show k % 10 < 10; omega) ?_
        have er : idM w y 0 (k / 10) = t.2.1 (k / 10) := ShM_id mt' 0 (k / 10) (by omega) (by show k / 10 < t.1.1; omega)
        have ec : idM w y 1 (k % 10) = t.2.2.1 (k % 10) := ShM_id mt' 1 (k % 10) (by omega) (by show k % 10 < t.1.2; omega)
        rw [er, ec]
        refine i_content bs ms' hx.1 hx.2 (fun kn q q0 hq => ?_) (fun kn => ?_)
        · rw [if_neg (by omega), w32e (x := 320 * y) (by omega) (by omega), w32e (x := 320 * y + k) (by omega) (by omega)]
          refine ⟨by omega, by omega, ?_⟩
          have hc := mt'.2.2.2 (k / 10) (k % 10) (by omega) (by omega) (by omega) (by omega)
          rw [show 320 * y + 10 * (k / 10) + k % 10 = 320 * y + k by omega] at hc
          refine i_alike (CoB_d fw B) hq hc (fun e => ?_) (fun e => ?_)
          · rw [if_neg (by decide)]
            exact same (by unfold cellE; exact ci_0 (fun w => w.2 e))
          · rw [if_pos rfl, w32e (by omega) (by omega), w32e (by omega) (by omega)]
            have ee : cellE s t (k / 10) (k % 10) = [(7, k / 10 + 1, k % 10 + 1)] := by unfold cellE; exact ci_1 ⟨kn, e⟩
            rw [ee] at eE
            refine i_differ fw dE (by omega) (fun w' fw' dw' => ?_)
            exact ih (k + 1, w') ⟨⟨by show 0 ≤ k + 1; omega, by show k + 1 ≤ 320; omega⟩, fw', _, dw', eE, by show (((E ++ _).length : Nat) : Int) ≤ D.length + (k + 1); rw [List.length_append]; simp only [List.length_cons, List.length_nil]; omega⟩ (by show (320 - (k + 1)).toNat < (320 - k).toNat; omega)
        · rw [if_pos (by decide)]
          exact same (by unfold cellE; exact ci_0 (fun w => kn w.1))
theorem RMq_d {u v : Mu} {s : SQ} {D : List D3} (g : Grw u v) (f : FrM wDf u v) (d : DfM v D) (h : RMq u s) : RMq v (s.1, s.2.1, (D.length : Int), fun k => D.getD k.toNat (0, 0, 0)) := by
  obtain ⟨⟨h1, h2⟩, -, -⟩ := h
  have m : ∀ k i, wHas [(0, some 98), (91, none), (92, none), (93, none), (94, none), (95, none), (96, none), (97, none)] k i → mI v k i = mI u k i := fun k i hk => mE f (R := [(0, some 98), (91, none), (92, none), (93, none), (94, none), (95, none), (96, none), (97, none)]) (by decide) hk
  refine ⟨⟨by rw [m 0 98 (wHas_i (by decide))]; exact h1, fun k k0 k1 => ?_⟩, d.1, fun k k0 k1 => ?_⟩
  · obtain ⟨g1, g2, g3, g4, g5, g6⟩ := h2 k k0 k1
    unfold CfM
    rw [m 91 k (wHas_a (by decide)), m 92 k (wHas_a (by decide)), m 93 k (wHas_a (by decide)), m 94 k (wHas_a (by decide)), m 95 k (wHas_a (by decide)), m 96 k (wHas_a (by decide)), m 97 k (wHas_a (by decide))]
    exact ⟨g1, g2, g3, g4, fun w => ⟨ContM_g g (g5 w).1, ContM_g g (g5 w).2⟩, g6⟩
  · replace k1 : k < (D.length : Int) := k1
    have q := d.2 k.toNat (by omega)
    rw [Int.toNat_of_nonneg k0] at q
    exact q
def wDi : WR := (0, some 0) :: wDf
theorem i_diff {u : Mu} {N : Int} {S : SS} {v w : Int} {P : Int → Mu → Prop} (hB : Bd S) (R : RM u N S) (B : CoB u) (h : ∀ x, RM x N (pDiff v w S).2.2 → FrM wDi u x → mI x 0 0 = ((pDiff v w S).1 : Int) → P (pDiff v w S).2.1 x) : F_X12_diff v w u P := by
  unfold F_X12_diff F_X12_diff_21
  rintro _ rfl
  have R' := RM_thr (x := 0) hB R
  have f : FrM wDi u (uI u 0 0 0) := FrM_uI FrM_rf (wHas_i (by decide))
  have z0 : mI (uI u 0 0 0) 0 0 = 0 := by rw [mI_uI, if_pos ⟨rfl, rfl⟩]
  have B' : CoB (uI u 0 0 0) := by
    unfold CoB; rw [mI_uI, if_neg (by omega), mI_uI, if_neg (by omega), mI_uI, if_neg (by omega)]; exact B
  generalize hx : uI u 0 0 0 = x at R' f z0 B' ⊢
  obtain ⟨⟨n1, n2⟩, ht, hl, hb, hk, hq⟩ := id R'
  unfold pDiff at h
  have thr : ¬ (isShP v S ∧ isShP w S) → F_X12_throwing 1 x (fun a b => P a b) := fun e => by
    rw [if_neg e] at h
    exact i_throwing (h _ (RM_thr hB R') (FrM_uI f (wHas_i (by decide))) (by rw [mI_uI, if_pos ⟨rfl, rfl⟩]; rfl))
  refine i_isSheet hB hl ?_
  by_cases hv : isShP v S
  rotate_left
  · rw [show tb (isShP v S) = 0 by rw [tb, if_neg hv], if_pos rfl]; exact thr (fun w => hv w.1)
  rw [show tb (isShP v S) = 1 by rw [tb, if_pos hv], if_neg (by decide)]
  refine i_isSheet hB hl ?_
  by_cases hw : isShP w S
  rotate_left
  · rw [show tb (isShP w S) = 0 by rw [tb, if_neg hw], if_pos rfl]; exact thr (fun q => hw q.2)
  rw [show tb (isShP w S) = 1 by rw [tb, if_pos hw], if_neg (by decide)]
  rw [if_pos ⟨hv, hw⟩] at h
  clear thr
  refine i_sheetAt hv.1 (i_sheetAt hw.1 ?_)
  rintro _ rfl
  have ms := slt_M hv R'
  have mt := slt_M hw R'
  have sb := slt_b hB hv
  have sc := slt_b hB hw
  have bs : ShB (shOf v S) := by
    unfold shOf; split
    · exact hB.2.2.2.1.1
    · next e => unfold isShP at hv; exact (hB.2.1.2 v (by omega) hv.2).1
  have bt : ShB (shOf w S) := by
    unfold shOf; split
    · exact hB.2.2.2.1.1
    · next e => unfold isShP at hw; exact (hB.2.1.2 w (by omega) hw.2).1
  generalize slt v = a at ms sb
  generalize slt w = d at mt sc
  generalize shOf v S = s at h ms bs
  generalize shOf w S = t at h mt bt
  have f0 : FrM wDf x (uI x 0 104 0) := FrM_uI FrM_rf (wHas_i (by decide))
  have d0 : DfM (uI x 0 104 0) [] := ⟨by rw [mI_uI, if_pos ⟨rfl, rfl⟩]; rfl, fun i hi => absurd hi (by show ¬ i < 0; omega)⟩
  generalize uI x 0 104 0 = y at f0 d0
  have l1 := lon_n bs t 1
  have l2 := lon_n bt s 2
  have l3 := lon_n bs t 3
  have l4 := lon_n bt s 4
  have q1 := (lnS_b bs 0).2
  have q2 := (lnS_b bs 1).2
  have q3 := (lnS_b bt 0).2
  have q4 := (lnS_b bt 1).2
  have m0 : mst 0 = 32 := rfl
  have m1 : mst 1 = 10 := rfl
  have hx2 : 0 ≤ a ∧ a < 122 := by omega
  have hy2 : 0 ≤ d ∧ d < 122 := by omega
  unfold F_X12_diff_46
  generalize hL1 : lon s t 0 1 = L1 at l1
  generalize hL2 : lon t s 0 2 = L2 at l2
  generalize hL3 : lon s t 1 3 = L3 at l3
  generalize hL4 : lon t s 1 4 = L4 at l4
  refine lp_I (fun q => FrM wDf x q.2 ∧ (q.1 = 0 ∧ DfM q.2 [] ∨ q.1 = 1 ∧ DfM q.2 (([] ++ L1) ++ L2) ∨ q.1 = 2 ∧ DfM q.2 (((([] ++ L1) ++ L2) ++ L3) ++ L4))) (fun q => (2 - q.1).toNat) ?_ (0, y) ⟨f0, Or.inl ⟨rfl, d0⟩⟩
  rintro G ⟨k, y1⟩ ⟨fy, hy⟩ ih
  simp only at fy hy
  unfold L_X12_diff_46
  dsimp only
  rcases hy with ⟨hk0, dy⟩ | ⟨hk0, dy⟩ | ⟨hk0, dy⟩
  · subst hk0
    rw [if_neg (by decide), w32e (x := 2 * 0) (by decide) (by decide), w32e (x := 2 * 0 + 1) (by decide) (by decide), w32e (x := 2 * 0 + 2) (by decide) (by decide), w32e (x := 0 + 1) (by decide) (by decide)]
    refine i_lone (D := []) B'.1.1 bs bt ms mt hx2 hy2 fy dy (by show (0 : Int) + _ ≤ 406; omega) (fun y2 fy2 dy2 => ?_)
    rw [show lon s t 0 (2 * 0 + 1) = L1 from hL1] at dy2
    have z1 : (([] ++ L1 : List D3).length : Int) ≤ 32 := by rw [List.nil_append]; omega
    refine i_lone (D := [] ++ L1) B'.1.1 bt bs mt ms hy2 hx2 fy2 dy2 (by omega) (fun y3 fy3 dy3 => ?_)
    rw [show lon t s 0 (2 * 0 + 2) = L2 from hL2] at dy3
    exact ih (1, y3) ⟨fy3, Or.inr (Or.inl ⟨rfl, dy3⟩)⟩ (by show ((2 : Int) - 1).toNat < ((2 : Int) - 0).toNat; decide)
  · subst hk0
    rw [if_neg (by decide), w32e (x := 2 * 1) (by decide) (by decide), w32e (x := 2 * 1 + 1) (by decide) (by decide), w32e (x := 2 * 1 + 2) (by decide) (by decide), w32e (x := 1 + 1) (by decide) (by decide)]
    have z1 : (([] ++ L1 ++ L2 : List D3).length : Int) ≤ 64 := by rw [List.nil_append, List.length_append]; omega
    refine i_lone (D := [] ++ L1 ++ L2) B'.1.1 bs bt ms mt hx2 hy2 fy dy (by omega) (fun y2 fy2 dy2 => ?_)
    rw [show lon s t 1 (2 * 1 + 1) = L3 from hL3] at dy2
    have z2 : (([] ++ L1 ++ L2 ++ L3 : List D3).length : Int) ≤ 74 := by rw [List.nil_append, List.length_append, List.length_append]; omega
    refine i_lone (D := [] ++ L1 ++ L2 ++ L3) B'.1.1 bt bs mt ms hy2 hx2 fy2 dy2 (by omega) (fun y3 fy3 dy3 => ?_)
    rw [show lon t s 1 (2 * 1 + 2) = L4 from hL4] at dy3
    exact ih (2, y3) ⟨fy3, Or.inr (Or.inr ⟨rfl, dy3⟩)⟩ (by show ((2 : Int) - 2).toNat < ((2 : Int) - 1).toNat; decide)
  · subst hk0
    rw [if_pos (by decide)]
    show F_X12_diff_91 a d 0 y1 P
    clear ih
    have z1 : ([] ++ L1 ++ L2 ++ L3 ++ L4 : List D3).length ≤ 84 := by rw [List.nil_append, List.length_append, List.length_append, List.length_append]; omega
    have hdl : diffL s t = ((([] ++ L1 ++ L2 ++ L3 ++ L4) ++ dOrd s t 0) ++ dOrd s t 1) ++ cellL s t t.1.1.toNat 0 := by unfold diffL; rw [hL1, hL2, hL3, hL4]
    generalize ([] ++ L1 ++ L2 ++ L3 ++ L4 : List D3) = E at dy z1 hdl
    have o0 := dOrd_n s t 0
    have o1 := dOrd_n s t 1
    unfold F_X12_diff_91
    refine lp_I (fun q => FrM wDf x q.2 ∧ (q.1 = 0 ∧ DfM q.2 E ∨ q.1 = 1 ∧ DfM q.2 (E ++ dOrd s t 0) ∨ q.1 = 2 ∧ DfM q.2 ((E ++ dOrd s t 0) ++ dOrd s t 1))) (fun q => (2 - q.1).toNat) ?_ (0, y1) ⟨fy, Or.inl ⟨rfl, dy⟩⟩
    rintro G2 ⟨k, y2⟩ ⟨fy2, hy⟩ ih
    simp only at fy2 hy
    unfold L_X12_diff_91 F_X12_diff_121
    dsimp only
    have ms' := ShM_d fy2 B'.1.1 bs ms
    have mt' := ShM_d fy2 B'.1.1 bt mt
    rcases hy with ⟨hk0, dy2⟩ | ⟨hk0, dy2⟩ | ⟨hk0, dy2⟩
    · subst hk0
      rw [if_neg (by decide), w32e (x := 0 + 1) (by decide) (by decide), w32e (x := 5 + 0) (by decide) (by decide)]
      refine i_sameOrder bs bt bt ms' mt' mt' hx2 hy2 hy2 ?_
      by_cases oo : ordP s t t 0
      · rw [cb_1 oo, if_neg (by decide)]
        exact ih (1, y2) ⟨fy2, Or.inr (Or.inl ⟨rfl, by unfold dOrd; rw [ci_1 oo, List.append_nil]; exact dy2⟩)⟩ (by show ((2 : Int) - 1).toNat < ((2 : Int) - 0).toNat; decide)
      · rw [cb_0 oo, if_pos rfl]
        refine i_differ fy2 dy2 (by omega) (fun y3 fy3 dy3 => ?_)
        exact ih (1, y3) ⟨fy3, Or.inr (Or.inl ⟨rfl, by unfold dOrd; rw [ci_0 oo]; exact dy3⟩)⟩ (by show ((2 : Int) - 1).toNat < ((2 : Int) - 0).toNat; decide)
    · subst hk0
      rw [if_neg (by decide), w32e (x := 1 + 1) (by decide) (by decide), w32e (x := 5 + 1) (by decide) (by decide)]
      refine i_sameOrder bs bt bt ms' mt' mt' hx2 hy2 hy2 ?_
      by_cases oo : ordP s t t 1
      · rw [cb_1 oo, if_neg (by decide)]
        exact ih (2, y2) ⟨fy2, Or.inr (Or.inr ⟨rfl, by rw [show dOrd s t 1 = [] by unfold dOrd; exact ci_1 oo, List.append_nil]; exact dy2⟩)⟩ (by show ((2 : Int) - 2).toNat < ((2 : Int) - 1).toNat; decide)
      · rw [cb_0 oo, if_pos rfl]
        refine i_differ fy2 dy2 (by rw [List.length_append]; omega) (fun y3 fy3 dy3 => ?_)
        exact ih (2, y3) ⟨fy3, Or.inr (Or.inr ⟨rfl, by rw [show dOrd s t 1 = [(5 + 1, 0, 0)] by unfold dOrd; exact ci_0 oo]; exact dy3⟩)⟩ (by show ((2 : Int) - 2).toNat < ((2 : Int) - 1).toNat; decide)
    · subst hk0
      rw [if_pos (by decide)]
      show F_X12_diff_130 a d 0 y2 P
      refine i_cells B' bs bt ms mt hx2 hy2 fy2 dy2 (by rw [List.length_append, List.length_append]; omega) (fun y3 fy3 dy3 => ?_)
      rw [← hdl] at dy3 ⊢
      have g := Grw_fr n1.1 fy3 (by decide)
      have e19 := mE fy3 (R := rgC) (by decide) (k := 0) (i := 19) (wHas_i (by decide))
      have e24 := mE fy3 (R := rgC) (by decide) (k := 0) (i := 24) (wHas_i (by decide))
      refine h y3 ⟨by rw [e19, e24]; exact ⟨n1, n2⟩, RMt_fr fy3 (by decide) ht, RMl_fr fy3 (by decide) (fun k a c => (hB.2.1.2 k a c).1) g (fun k _ _ => SlM_fr fy3 (by decide)) hl, RMb_fr fy3 (by decide) hb, RMk_fr fy3 (by decide) (by decide) hB.2.2.2.1.1 hB.2.2.2.1.2.2.1 hB.2.2.2.1.2.2.2 g hk, RMq_d g fy3 dy3 hq⟩ (FrM_tr f (FrM_sub fy3 (by decide))) ?_
      rw [mE fy3 (R := [(0, some 0)]) (by decide) (wHas_i (by decide))]; exact z0
